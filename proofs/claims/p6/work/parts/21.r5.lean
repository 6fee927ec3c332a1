def Kc915 : Con := ((146, [(2, 0, 0, [150])], []), [(150, 0, 0), (150, 11, 11)], [(none, [], [])])
set_option maxRecDepth 20000 in
theorem vc915 {l : Launch} {X : Nat × (Nat → Int32)} {e : Int} (d : Nat) : Vc l X U0 Pt5 e d Kc915 :=
  ck (d := d) (Ks := []) (cy := 152) (cd := cdX7_good) (nl := 1) (fuel := 1000) (Hs := []) (by decide) rfl (fun na b => by rw [← ceX7_good]; exact tkX7_good) (fun _ h => absurd h List.not_mem_nil) (cpyX d) (by decide +kernel)
def Kc916 : Con := ((149, [(0, iLo, iHi, []), (0, 0, 0, []), (0, (-1), 5, [])], []), [], [(some (0, 0, 0, []), [], []), (some (0, 1, 1, []), [(0, 0, 5), (2, 0, 5)], [])])
set_option maxRecDepth 20000 in
theorem vc916 {l : Launch} {X : Nat × (Nat → Int32)} {e : Int} (d : Nat) : Vc l X U0 Pt5 e d Kc916 :=
  ck (d := d) (Ks := []) (cy := 152) (cd := cdX7_in) (nl := 3) (fuel := 1000) (Hs := []) (by decide) rfl (fun na b => by rw [← ceX7_in]; exact tkX7_in) (fun _ h => absurd h List.not_mem_nil) (cpyX d) (by decide +kernel)
def Kc917 : Con := ((185, [(2, 0, 0, [150]), (0, iLo, iHi, [])], []), [], [(some (0, 0, 0, []), [], []), (some (0, 1, 1, []), [(1, 0, 5)], [])])
set_option maxRecDepth 20000 in
theorem vc917 {l : Launch} {X : Nat × (Nat → Int32)} {e : Int} (d : Nat) : Vc l X U0 Pt5 e (d + 1) Kc917 :=
  ck (d := d) (Ks := [Kc916]) (cy := 152) (cd := cdX7_isFace) (nl := 2) (fuel := 1000) (Hs := []) (by decide) rfl (fun na b => by rw [← ceX7_isFace]; exact tkX7_isFace) (List.forall_mem_cons.mpr ⟨vc916 d, fun _ h => absurd h List.not_mem_nil⟩) (cpyX d) (by decide +kernel)
def Kc918 : Con := ((147, [(2, 0, 0, [150]), (0, iLo, iHi, [])], []), [(150, 11, 11)], [(some (0, (-1), (-1), []), [], [])])
set_option maxRecDepth 20000 in
theorem vc918 {l : Launch} {X : Nat × (Nat → Int32)} {e : Int} (d : Nat) : Vc l X U0 Pt5 e d Kc918 :=
  ck (d := d) (Ks := []) (cy := 152) (cd := cdX7_no) (nl := 2) (fuel := 1000) (Hs := []) (by decide) rfl (fun na b => by rw [← ceX7_no]; exact tkX7_no) (fun _ h => absurd h List.not_mem_nil) (cpyX d) (by decide +kernel)
def Kc919 : Con := ((149, [(0, iLo, iHi, []), (0, 0, 0, []), (0, 6, 6, [])], []), [], [(some (0, 0, 0, []), [], []), (some (0, 1, 1, []), [(0, 0, 6)], [])])
set_option maxRecDepth 20000 in
theorem vc919 {l : Launch} {X : Nat × (Nat → Int32)} {e : Int} (d : Nat) : Vc l X U0 Pt5 e d Kc919 :=
  ck (d := d) (Ks := []) (cy := 152) (cd := cdX7_in) (nl := 3) (fuel := 1000) (Hs := []) (by decide) rfl (fun na b => by rw [← ceX7_in]; exact tkX7_in) (fun _ h => absurd h List.not_mem_nil) (cpyX d) (by decide +kernel)
def Kc920 : Con := ((197, [(2, 0, 0, [150]), (0, iLo, iHi, [])], []), [], [(some (0, (-2), (-2), []), [], []), (some (0, 0, 4, []), [], [])])
set_option maxRecDepth 20000 in
theorem vc920 {l : Launch} {X : Nat × (Nat → Int32)} {e : Int} (d : Nat) : Vc l X U0 Pt5 e d Kc920 :=
  ck (d := d) (Ks := []) (cy := 152) (cd := cdX7_canonOf) (nl := 3) (fuel := 1000) (Hs := [((2, 0), ([(0, (2, 0, 0, [150])), (1, (0, 1, 0, [])), (2, (0, 2, 0, []))], [], [(0, 0), (iLo, iHi), (0, 5)], []), [(0, 1, 0), (0, 2, 0)], (10, [(2, (-2))]), [])]) (by decide) rfl (fun na b => by rw [← ceX7_canonOf]; exact tkX7_canonOf) (fun _ h => absurd h List.not_mem_nil) (cpyX d) (by decide +kernel)
def Kc921 : Con := ((198, [(2, 0, 0, [150]), (0, iLo, iHi, []), (0, iLo, iHi, [])], []), [(150, 0, 0), (150, 11, 11)], [(some (0, (-1), (-1), []), [], []), (some (0, iLo, iHi, []), [(1, 0, 5), (2, 0, 6)], []), (some (0, (-2), (-2), []), [(1, 0, 5), (2, 5, 5)], [])])
set_option maxRecDepth 20000 in
theorem vc921 {l : Launch} {X : Nat × (Nat → Int32)} {e : Int} (d : Nat) : Vc l X U0 Pt5 e (d + 2) Kc921 :=
  ck (d := (d + 1)) (Ks := [Kc915, Kc917, Kc918, Kc919, Kc920]) (cy := 152) (cd := cdX7_face) (nl := 3) (fuel := 1000) (Hs := []) (by decide) rfl (fun na b => by rw [← ceX7_face]; exact tkX7_face) (List.forall_mem_cons.mpr ⟨vc915 (d + 1), List.forall_mem_cons.mpr ⟨vc917 d, List.forall_mem_cons.mpr ⟨vc918 (d + 1), List.forall_mem_cons.mpr ⟨vc919 (d + 1), List.forall_mem_cons.mpr ⟨vc920 (d + 1), fun _ h => absurd h List.not_mem_nil⟩⟩⟩⟩⟩) (cpyX (d + 1)) (by decide +kernel)
def Kc922 : Con := ((149, [(0, iLo, iHi, []), (0, 0, 0, []), (0, 4, 4, [])], []), [], [(some (0, 0, 0, []), [], []), (some (0, 1, 1, []), [(0, 0, 4)], [])])
set_option maxRecDepth 20000 in
theorem vc922 {l : Launch} {X : Nat × (Nat → Int32)} {e : Int} (d : Nat) : Vc l X U0 Pt5 e d Kc922 :=
  ck (d := d) (Ks := []) (cy := 152) (cd := cdX7_in) (nl := 3) (fuel := 1000) (Hs := []) (by decide) rfl (fun na b => by rw [← ceX7_in]; exact tkX7_in) (fun _ h => absurd h List.not_mem_nil) (cpyX d) (by decide +kernel)
def Kc923 : Con := ((186, [(2, 0, 0, [150]), (0, iLo, iHi, [])], []), [], [(some (0, 0, 0, []), [], []), (some (0, 1, 1, []), [(1, 0, 4)], [])])
set_option maxRecDepth 20000 in
theorem vc923 {l : Launch} {X : Nat × (Nat → Int32)} {e : Int} (d : Nat) : Vc l X U0 Pt5 e (d + 1) Kc923 :=
  ck (d := d) (Ks := [Kc922]) (cy := 152) (cd := cdX7_isCanon) (nl := 2) (fuel := 1000) (Hs := []) (by decide) rfl (fun na b => by rw [← ceX7_isCanon]; exact tkX7_isCanon) (List.forall_mem_cons.mpr ⟨vc922 d, fun _ h => absurd h List.not_mem_nil⟩) (cpyX d) (by decide +kernel)
def Kc924 : Con := ((149, [(0, iLo, iHi, []), (0, 0, 0, []), (0, 2, 2, [])], []), [], [(some (0, 0, 0, []), [], []), (some (0, 1, 1, []), [(0, 0, 2)], [])])
set_option maxRecDepth 20000 in
theorem vc924 {l : Launch} {X : Nat × (Nat → Int32)} {e : Int} (d : Nat) : Vc l X U0 Pt5 e d Kc924 :=
  ck (d := d) (Ks := []) (cy := 152) (cd := cdX7_in) (nl := 3) (fuel := 1000) (Hs := []) (by decide) rfl (fun na b => by rw [← ceX7_in]; exact tkX7_in) (fun _ h => absurd h List.not_mem_nil) (cpyX d) (by decide +kernel)
def Kc925 : Con := ((199, [(2, 0, 0, [150]), (0, iLo, iHi, []), (0, iLo, iHi, [])], []), [(150, 0, 0), (150, 11, 11)], [(some (0, (-1), (-1), []), [], []), (some (0, 0, 30, []), [(1, 0, 4), (2, 0, 2)], [])])
set_option maxRecDepth 20000 in
theorem vc925 {l : Launch} {X : Nat × (Nat → Int32)} {e : Int} (d : Nat) : Vc l X U0 Pt5 e (d + 2) Kc925 :=
  ck (d := (d + 1)) (Ks := [Kc915, Kc923, Kc918, Kc924]) (cy := 152) (cd := cdX7_canon) (nl := 3) (fuel := 1000) (Hs := []) (by decide) rfl (fun na b => by rw [← ceX7_canon]; exact tkX7_canon) (List.forall_mem_cons.mpr ⟨vc915 (d + 1), List.forall_mem_cons.mpr ⟨vc923 d, List.forall_mem_cons.mpr ⟨vc918 (d + 1), List.forall_mem_cons.mpr ⟨vc924 (d + 1), fun _ h => absurd h List.not_mem_nil⟩⟩⟩⟩) (cpyX (d + 1)) (by decide +kernel)
def Kc926 : Con := ((187, [(2, 0, 0, [150])], []), [], [(some (0, 0, 20, []), [], [])])
set_option maxRecDepth 20000 in
theorem vc926 {l : Launch} {X : Nat × (Nat → Int32)} {e : Int} (d : Nat) : Vc l X U0 Pt5 e d Kc926 :=
  ck (d := d) (Ks := []) (cy := 152) (cd := cdX7_cells) (nl := 1) (fuel := 1000) (Hs := []) (by decide) rfl (fun na b => by rw [← ceX7_cells]; exact tkX7_cells) (fun _ h => absurd h List.not_mem_nil) (cpyX d) (by decide +kernel)
def Kc927 : Con := ((149, [(0, iLo, iHi, []), (0, 0, 0, []), (0, (-1), 19, [])], []), [], [(some (0, 0, 0, []), [], []), (some (0, 1, 1, []), [(0, 0, 19), (2, 0, 19)], [])])
set_option maxRecDepth 20000 in
theorem vc927 {l : Launch} {X : Nat × (Nat → Int32)} {e : Int} (d : Nat) : Vc l X U0 Pt5 e d Kc927 :=
  ck (d := d) (Ks := []) (cy := 152) (cd := cdX7_in) (nl := 3) (fuel := 1000) (Hs := []) (by decide) rfl (fun na b => by rw [← ceX7_in]; exact tkX7_in) (fun _ h => absurd h List.not_mem_nil) (cpyX d) (by decide +kernel)
def Kc928 : Con := ((188, [(2, 0, 0, [150]), (0, iLo, iHi, [])], []), [], [(some (0, 0, 0, []), [], []), (some (0, 1, 1, []), [(1, 0, 19)], [])])
set_option maxRecDepth 20000 in
theorem vc928 {l : Launch} {X : Nat × (Nat → Int32)} {e : Int} (d : Nat) : Vc l X U0 Pt5 e (d + 1) Kc928 :=
  ck (d := d) (Ks := [Kc926, Kc927]) (cy := 152) (cd := cdX7_isCell) (nl := 2) (fuel := 1000) (Hs := []) (by decide) rfl (fun na b => by rw [← ceX7_isCell]; exact tkX7_isCell) (List.forall_mem_cons.mpr ⟨vc926 d, List.forall_mem_cons.mpr ⟨vc927 d, fun _ h => absurd h List.not_mem_nil⟩⟩) (cpyX d) (by decide +kernel)
def Kc929 : Con := ((149, [(0, iLo, iHi, []), (0, 0, 0, []), (0, 3, 3, [])], []), [], [(some (0, 0, 0, []), [], []), (some (0, 1, 1, []), [(0, 0, 3)], [])])
set_option maxRecDepth 20000 in
theorem vc929 {l : Launch} {X : Nat × (Nat → Int32)} {e : Int} (d : Nat) : Vc l X U0 Pt5 e d Kc929 :=
  ck (d := d) (Ks := []) (cy := 152) (cd := cdX7_in) (nl := 3) (fuel := 1000) (Hs := []) (by decide) rfl (fun na b => by rw [← ceX7_in]; exact tkX7_in) (fun _ h => absurd h List.not_mem_nil) (cpyX d) (by decide +kernel)
def Kc930 : Con := ((200, [(2, 0, 0, [150]), (0, iLo, iHi, [])], []), [], [(some (0, (-2), (-2), []), [], []), (some (0, 0, 5, []), [], [])])
set_option maxRecDepth 20000 in
theorem vc930 {l : Launch} {X : Nat × (Nat → Int32)} {e : Int} (d : Nat) : Vc l X U0 Pt5 e d Kc930 :=
  ck (d := d) (Ks := []) (cy := 152) (cd := cdX7_faceOver) (nl := 3) (fuel := 1000) (Hs := [((2, 0), ([(0, (2, 0, 0, [150])), (1, (0, 1, 0, [])), (2, (0, 2, 0, []))], [], [(0, 0), (iLo, iHi), (0, 6)], []), [(0, 1, 0), (0, 2, 0)], (12, [(2, (-2))]), [])]) (by decide) rfl (fun na b => by rw [← ceX7_faceOver]; exact tkX7_faceOver) (fun _ h => absurd h List.not_mem_nil) (cpyX d) (by decide +kernel)
def Kc931 : Con := ((149, [(0, iLo, iHi, []), (0, 0, 0, []), (0, 1, 4, [])], []), [], [(some (0, 0, 0, []), [], []), (some (0, 1, 1, []), [(0, 0, 4)], [])])
set_option maxRecDepth 20000 in
theorem vc931 {l : Launch} {X : Nat × (Nat → Int32)} {e : Int} (d : Nat) : Vc l X U0 Pt5 e d Kc931 :=
  ck (d := d) (Ks := []) (cy := 152) (cd := cdX7_in) (nl := 3) (fuel := 1000) (Hs := []) (by decide) rfl (fun na b => by rw [← ceX7_in]; exact tkX7_in) (fun _ h => absurd h List.not_mem_nil) (cpyX d) (by decide +kernel)
def Kc932 : Con := ((149, [(0, iLo, iHi, []), (0, 0, 0, []), (0, (-1), 3, [])], []), [], [(some (0, 0, 0, []), [], []), (some (0, 1, 1, []), [(0, 0, 3), (2, 0, 3)], [])])
set_option maxRecDepth 20000 in
theorem vc932 {l : Launch} {X : Nat × (Nat → Int32)} {e : Int} (d : Nat) : Vc l X U0 Pt5 e d Kc932 :=
  ck (d := d) (Ks := []) (cy := 152) (cd := cdX7_in) (nl := 3) (fuel := 1000) (Hs := []) (by decide) rfl (fun na b => by rw [← ceX7_in]; exact tkX7_in) (fun _ h => absurd h List.not_mem_nil) (cpyX d) (by decide +kernel)
def Kc933 : Con := ((150, [(0, iLo, iHi, []), (0, iLo, iHi, [])], []), [], [(some (0, 0, 0, []), [], []), (some (0, 1, 1, []), [], [])])
set_option maxRecDepth 20000 in
theorem vc933 {l : Launch} {X : Nat × (Nat → Int32)} {e : Int} (d : Nat) : Vc l X U0 Pt5 e d Kc933 :=
  ck (d := d) (Ks := []) (cy := 152) (cd := cdX7_hasBit) (nl := 2) (fuel := 1000) (Hs := []) (by decide) rfl (fun na b => by rw [← ceX7_hasBit]; exact tkX7_hasBit) (fun _ h => absurd h List.not_mem_nil) (cpyX d) (by decide +kernel)
def Kc934 : Con := ((201, [(2, 0, 0, [150]), (0, iLo, iHi, [])], []), [], [(some (0, 0, 0, []), [], []), (some (0, 1, 1, []), [], [])])
set_option maxRecDepth 20000 in
theorem vc934 {l : Launch} {X : Nat × (Nat → Int32)} {e : Int} (d : Nat) : Vc l X U0 Pt5 e (d + 1) Kc934 :=
  ck (d := d) (Ks := [Kc933]) (cy := 152) (cd := cdX7_isWall) (nl := 2) (fuel := 1000) (Hs := []) (by decide) rfl (fun na b => by rw [← ceX7_isWall]; exact tkX7_isWall) (List.forall_mem_cons.mpr ⟨vc933 d, fun _ h => absurd h List.not_mem_nil⟩) (cpyX d) (by decide +kernel)
def Kc935 : Con := ((202, [(2, 0, 0, [150]), (0, iLo, iHi, []), (0, iLo, iHi, [])], []), [], [(some (0, (-2), (-2), []), [], []), (some (0, 0, 19, []), [], [])])
set_option maxRecDepth 20000 in
theorem vc935 {l : Launch} {X : Nat × (Nat → Int32)} {e : Int} (d : Nat) : Vc l X U0 Pt5 e (d + 2) Kc935 :=
  ck (d := (d + 1)) (Ks := [Kc931, Kc932, Kc934]) (cy := 152) (cd := cdX7_stepFrom) (nl := 5) (fuel := 1000) (Hs := []) (by decide) rfl (fun na b => by rw [← ceX7_stepFrom]; exact tkX7_stepFrom) (List.forall_mem_cons.mpr ⟨vc931 (d + 1), List.forall_mem_cons.mpr ⟨vc932 (d + 1), List.forall_mem_cons.mpr ⟨vc934 d, fun _ h => absurd h List.not_mem_nil⟩⟩⟩) (cpyX (d + 1)) (by decide +kernel)
def Kc936 : Con := ((203, [(2, 0, 0, [150]), (0, iLo, iHi, [])], []), [], [(some (0, iLo, iHi, []), [], [])])
set_option maxRecDepth 20000 in
theorem vc936 {l : Launch} {X : Nat × (Nat → Int32)} {e : Int} (d : Nat) : Vc l X U0 Pt5 e (d + 3) Kc936 :=
  ck (d := (d + 2)) (Ks := [Kc935]) (cy := 152) (cd := cdX7_beside) (nl := 4) (fuel := 1000) (Hs := [((4, 0), ([(0, (2, 0, 0, [150])), (1, (0, 1, 0, [])), (2, (0, 2, 0, [])), (3, (0, 3, 0, []))], [], [(0, 0), (iLo, iHi), (iLo, iHi), (0, 4)], []), [(0, 1, 0), (0, 2, 0), (0, 3, 0)], (8, [(3, (-2))]), [])]) (by decide) rfl (fun na b => by rw [← ceX7_beside]; exact tkX7_beside) (List.forall_mem_cons.mpr ⟨vc935 d, fun _ h => absurd h List.not_mem_nil⟩) (cpyX (d + 2)) (by decide +kernel)
def Kc937 : Con := ((204, [(2, 0, 0, [150]), (0, iLo, iHi, []), (0, iLo, iHi, [])], []), [(150, 0, 0), (150, 11, 11), (150, 26, 26)], [(some (0, (-1), (-1), []), [], []), (some (0, iLo, iHi, []), [(1, 0, 19), (2, 0, 3)], []), (some (0, (-2), (-2), []), [(1, 0, 19), (2, 1, 1)], [])])
set_option maxRecDepth 20000 in
theorem vc937 {l : Launch} {X : Nat × (Nat → Int32)} {e : Int} (d : Nat) : Vc l X U0 Pt5 e (d + 4) Kc937 :=
  ck (d := (d + 3)) (Ks := [Kc915, Kc928, Kc918, Kc929, Kc930, Kc936]) (cy := 152) (cd := cdX7_cell) (nl := 3) (fuel := 1000) (Hs := []) (by decide) rfl (fun na b => by rw [← ceX7_cell]; exact tkX7_cell) (List.forall_mem_cons.mpr ⟨vc915 (d + 3), List.forall_mem_cons.mpr ⟨vc928 (d + 2), List.forall_mem_cons.mpr ⟨vc918 (d + 3), List.forall_mem_cons.mpr ⟨vc929 (d + 3), List.forall_mem_cons.mpr ⟨vc930 (d + 3), List.forall_mem_cons.mpr ⟨vc936 d, fun _ h => absurd h List.not_mem_nil⟩⟩⟩⟩⟩⟩) (cpyX (d + 3)) (by decide +kernel)
def Kc938 : Con := ((205, [(2, 0, 0, [150])], []), [(150, 0, 0), (150, 11, 11)], [(some (0, iLo, iHi, []), [], [])])
set_option maxRecDepth 20000 in
theorem vc938 {l : Launch} {X : Nat × (Nat → Int32)} {e : Int} (d : Nat) : Vc l X U0 Pt5 e (d + 1) Kc938 :=
  ck (d := d) (Ks := [Kc915]) (cy := 152) (cd := cdX7_burden) (nl := 3) (fuel := 1000) (Hs := [((21, 0), ([(0, (2, 0, 0, [150])), (1, (0, 1, 0, [])), (2, (0, 2, 0, []))], [], [(0, 0), (iLo, iHi), (0, 6)], []), [(0, 1, 0), (0, 2, 0)], (12, [(2, (-2))]), [])]) (by decide) rfl (fun na b => by rw [← ceX7_burden]; exact tkX7_burden) (List.forall_mem_cons.mpr ⟨vc915 d, fun _ h => absurd h List.not_mem_nil⟩) (cpyX d) (by decide +kernel)
def Kc939 : Con := ((149, [(0, iLo, iHi, []), (0, 0, 0, []), (0, 60, 60, [])], []), [], [(some (0, 0, 0, []), [], []), (some (0, 1, 1, []), [(0, 0, 60)], [])])
set_option maxRecDepth 20000 in
theorem vc939 {l : Launch} {X : Nat × (Nat → Int32)} {e : Int} (d : Nat) : Vc l X U0 Pt5 e d Kc939 :=
  ck (d := d) (Ks := []) (cy := 152) (cd := cdX7_in) (nl := 3) (fuel := 1000) (Hs := []) (by decide) rfl (fun na b => by rw [← ceX7_in]; exact tkX7_in) (fun _ h => absurd h List.not_mem_nil) (cpyX d) (by decide +kernel)
def Kc940 : Con := ((190, [(2, 0, 0, [150]), (0, 0, 0, []), (0, 0, 0, [])], []), [], [(some (0, 1, 1, []), [], [])])
set_option maxRecDepth 20000 in
theorem vc940 {l : Launch} {X : Nat × (Nat → Int32)} {e : Int} (d : Nat) : Vc l X U0 Pt5 e d Kc940 :=
  ck (d := d) (Ks := []) (cy := 152) (cd := cdX7_why) (nl := 3) (fuel := 1000) (Hs := []) (by decide) rfl (fun na b => by rw [← ceX7_why]; exact tkX7_why) (fun _ h => absurd h List.not_mem_nil) (cpyX d) (by decide +kernel)
def Kc941 : Con := ((190, [(2, 0, 0, [150]), (0, 0, 0, []), (0, 1, 1, [])], []), [], [(some (0, 1, 1, []), [], [])])
set_option maxRecDepth 20000 in
theorem vc941 {l : Launch} {X : Nat × (Nat → Int32)} {e : Int} (d : Nat) : Vc l X U0 Pt5 e d Kc941 :=
  ck (d := d) (Ks := []) (cy := 152) (cd := cdX7_why) (nl := 3) (fuel := 1000) (Hs := []) (by decide) rfl (fun na b => by rw [← ceX7_why]; exact tkX7_why) (fun _ h => absurd h List.not_mem_nil) (cpyX d) (by decide +kernel)
def Kc942 : Con := ((206, [(2, 0, 0, [150]), (0, 0, 0, []), (0, 0, 0, []), (0, iLo, iHi, [])], []), [], [(some (0, 1, 1, []), [], [])])
set_option maxRecDepth 20000 in
theorem vc942 {l : Launch} {X : Nat × (Nat → Int32)} {e : Int} (d : Nat) : Vc l X U0 Pt5 e (d + 1) Kc942 :=
  ck (d := d) (Ks := [Kc939, Kc940, Kc941]) (cy := 152) (cd := cdX7_aheadWhy) (nl := 4) (fuel := 1000) (Hs := []) (by decide) rfl (fun na b => by rw [← ceX7_aheadWhy]; exact tkX7_aheadWhy) (List.forall_mem_cons.mpr ⟨vc939 d, List.forall_mem_cons.mpr ⟨vc940 d, List.forall_mem_cons.mpr ⟨vc941 d, fun _ h => absurd h List.not_mem_nil⟩⟩⟩) (cpyX d) (by decide +kernel)
def Kc943 : Con := ((190, [(2, 0, 0, [150]), (0, 1, 1, []), (0, 0, 0, [])], []), [], [(some (0, 2, 2, []), [], [])])
set_option maxRecDepth 20000 in
theorem vc943 {l : Launch} {X : Nat × (Nat → Int32)} {e : Int} (d : Nat) : Vc l X U0 Pt5 e d Kc943 :=
  ck (d := d) (Ks := []) (cy := 152) (cd := cdX7_why) (nl := 3) (fuel := 1000) (Hs := []) (by decide) rfl (fun na b => by rw [← ceX7_why]; exact tkX7_why) (fun _ h => absurd h List.not_mem_nil) (cpyX d) (by decide +kernel)
def Kc944 : Con := ((190, [(2, 0, 0, [150]), (0, 1, 1, []), (0, 1, 1, [])], []), [], [(some (0, 0, 0, []), [], [])])
set_option maxRecDepth 20000 in
theorem vc944 {l : Launch} {X : Nat × (Nat → Int32)} {e : Int} (d : Nat) : Vc l X U0 Pt5 e d Kc944 :=
  ck (d := d) (Ks := []) (cy := 152) (cd := cdX7_why) (nl := 3) (fuel := 1000) (Hs := []) (by decide) rfl (fun na b => by rw [← ceX7_why]; exact tkX7_why) (fun _ h => absurd h List.not_mem_nil) (cpyX d) (by decide +kernel)
def Kc945 : Con := ((206, [(2, 0, 0, [150]), (0, 1, 1, []), (0, 0, 0, []), (0, iLo, iHi, [])], []), [], [(some (0, 2, 2, []), [], []), (some (0, 0, 0, []), [(3, 0, 60)], [])])
set_option maxRecDepth 20000 in
theorem vc945 {l : Launch} {X : Nat × (Nat → Int32)} {e : Int} (d : Nat) : Vc l X U0 Pt5 e (d + 1) Kc945 :=
  ck (d := d) (Ks := [Kc939, Kc943, Kc944]) (cy := 152) (cd := cdX7_aheadWhy) (nl := 4) (fuel := 1000) (Hs := []) (by decide) rfl (fun na b => by rw [← ceX7_aheadWhy]; exact tkX7_aheadWhy) (List.forall_mem_cons.mpr ⟨vc939 d, List.forall_mem_cons.mpr ⟨vc943 d, List.forall_mem_cons.mpr ⟨vc944 d, fun _ h => absurd h List.not_mem_nil⟩⟩⟩) (cpyX d) (by decide +kernel)
def Kc946 : Con := ((191, [(2, 0, 0, [150]), (0, iLo, iHi, [])], []), [(160, 0, 4)], [(none, [], [])])
set_option maxRecDepth 20000 in
theorem vc946 {l : Launch} {X : Nat × (Nat → Int32)} {e : Int} (d : Nat) : Vc l X U0 Pt5 e (d + 1) Kc946 :=
  ck (d := d) (Ks := [Kc933]) (cy := 152) (cd := cdX7_vexedBy) (nl := 3) (fuel := 1000) (Hs := [((2, 0), ([(0, (2, 0, 0, [150])), (1, (0, 1, 0, [])), (2, (0, 2, 0, []))], [], [(0, 0), (iLo, iHi), (0, 5)], []), [(0, 1, 0), (0, 2, 0)], (31, [(2, (-3))]), []), ((37, 2), ([(0, (2, 0, 0, [150])), (1, (0, 1, 0, [])), (2, (0, 2, 0, []))], [], [(0, 0), (iLo, iHi), (0, 4)], []), [(0, 1, 0), (0, 2, 0)], (12, [(2, (-3))]), [])]) (by decide) rfl (fun na b => by rw [← ceX7_vexedBy]; exact tkX7_vexedBy) (List.forall_mem_cons.mpr ⟨vc933 d, fun _ h => absurd h List.not_mem_nil⟩) (cpyX d) (by decide +kernel)
def Kc947 : Con := ((192, [(2, 0, 0, [150]), (2, 0, 0, [161]), (0, 0, 5, [])], []), [], [(some (0, iLo, iHi, []), [], [])])
set_option maxRecDepth 20000 in
theorem vc947 {l : Launch} {X : Nat × (Nat → Int32)} {e : Int} (d : Nat) : Vc l X U0 Pt5 e d Kc947 :=
  ck (d := d) (Ks := []) (cy := 152) (cd := cdX7_letsGo) (nl := 6) (fuel := 1000) (Hs := []) (by decide) rfl (fun na b => by rw [← ceX7_letsGo]; exact tkX7_letsGo) (fun _ h => absurd h List.not_mem_nil) (cpyX d) (by decide +kernel)
def Kc948 : Con := ((193, [(2, 0, 0, [150]), (2, 0, 0, [161]), (0, iLo, iHi, [])], []), [(161, 0, 17), (161, 23, 24)], [(none, [], [])])
set_option maxRecDepth 20000 in
theorem vc948 {l : Launch} {X : Nat × (Nat → Int32)} {e : Int} (d : Nat) : Vc l X U0 Pt5 e (d + 1) Kc948 :=
  ck (d := d) (Ks := [Kc947]) (cy := 152) (cd := cdX7_dayOn) (nl := 5) (fuel := 1000) (Hs := [((15, 0), ([(0, (2, 0, 0, [150])), (1, (2, 0, 0, [161])), (2, (0, 1, 0, [])), (3, (0, 2, 0, []))], [], [(0, 0), (iLo, iHi), (0, 5)], []), [(0, 2, 0), (0, 3, 0)], (37, [(2, (-3))]), []), ((89, 0), ([(0, (2, 0, 0, [150])), (1, (2, 0, 0, [161])), (3, (0, 1, 0, []))], [], [(0, 0), (0, 6)], []), [(0, 3, 0)], (18, [(1, (-3))]), [])]) (by decide) rfl (fun na b => by rw [← ceX7_dayOn]; exact tkX7_dayOn) (List.forall_mem_cons.mpr ⟨vc947 d, fun _ h => absurd h List.not_mem_nil⟩) (cpyX d) (by decide +kernel)
def Kc949 : Con := ((194, [(2, 0, 0, [150]), (0, iLo, iHi, [])], []), [(160, 0, 4), (161, 0, 24)], [(none, [], [])])
set_option maxRecDepth 20000 in
theorem vc949 {l : Launch} {X : Nat × (Nat → Int32)} {e : Int} (d : Nat) : Vc l X U0 Pt5 e (d + 2) Kc949 :=
  ck (d := (d + 1)) (Ks := [Kc946, Kc948]) (cy := 152) (cd := cdX7_daysOn) (nl := 3) (fuel := 1000) (Hs := [((22, 0), ([(0, (2, 0, 0, [150])), (1, (0, 1, 0, [])), (2, (0, 2, 0, []))], [], [(0, 0), (iLo, iHi), (0, iHi)], []), [(0, 1, 0), (0, 2, 0)], (4294967294, [(2, (-2))]), [])]) (by decide) rfl (fun na b => by rw [← ceX7_daysOn]; exact tkX7_daysOn) (List.forall_mem_cons.mpr ⟨vc946 d, List.forall_mem_cons.mpr ⟨vc948 d, fun _ h => absurd h List.not_mem_nil⟩⟩) (cpyX (d + 1)) (by decide +kernel)
def Kc950 : Con := ((207, [(2, 0, 0, [150]), (0, iLo, iHi, []), (0, iLo, iHi, [])], []), [(150, 0, 0), (150, 11, 11), (160, 0, 4), (161, 0, 24)], [(some (0, (-1), (-1), []), [], []), (some (0, iLo, iHi, []), [(1, 0, 5), (2, 0, 60)], [])])
set_option maxRecDepth 20000 in
theorem vc950 {l : Launch} {X : Nat × (Nat → Int32)} {e : Int} (d : Nat) : Vc l X U0 Pt5 e (d + 3) Kc950 :=
  ck (d := (d + 2)) (Ks := [Kc915, Kc917, Kc942, Kc918, Kc945, Kc949]) (cy := 152) (cd := cdX7_bears) (nl := 4) (fuel := 1000) (Hs := []) (by decide) rfl (fun na b => by rw [← ceX7_bears]; exact tkX7_bears) (List.forall_mem_cons.mpr ⟨vc915 (d + 2), List.forall_mem_cons.mpr ⟨vc917 (d + 1), List.forall_mem_cons.mpr ⟨vc942 (d + 1), List.forall_mem_cons.mpr ⟨vc918 (d + 2), List.forall_mem_cons.mpr ⟨vc945 (d + 1), List.forall_mem_cons.mpr ⟨vc949 d, fun _ h => absurd h List.not_mem_nil⟩⟩⟩⟩⟩⟩) (cpyX (d + 2)) (by decide +kernel)
def Kc951 : Con := ((208, [(2, 0, 0, [150]), (0, iLo, iHi, []), (0, iLo, iHi, [])], []), [(150, 0, 0), (150, 11, 11), (160, 0, 4), (161, 0, 24)], [(some (0, (-1), (-1), []), [], []), (some (0, iLo, iHi, []), [(1, 0, 5), (2, 0, 60)], [])])
set_option maxRecDepth 20000 in
theorem vc951 {l : Launch} {X : Nat × (Nat → Int32)} {e : Int} (d : Nat) : Vc l X U0 Pt5 e (d + 3) Kc951 :=
  ck (d := (d + 2)) (Ks := [Kc915, Kc917, Kc942, Kc918, Kc945, Kc949]) (cy := 152) (cd := cdX7_holds) (nl := 4) (fuel := 1000) (Hs := []) (by decide) rfl (fun na b => by rw [← ceX7_holds]; exact tkX7_holds) (List.forall_mem_cons.mpr ⟨vc915 (d + 2), List.forall_mem_cons.mpr ⟨vc917 (d + 1), List.forall_mem_cons.mpr ⟨vc942 (d + 1), List.forall_mem_cons.mpr ⟨vc918 (d + 2), List.forall_mem_cons.mpr ⟨vc945 (d + 1), List.forall_mem_cons.mpr ⟨vc949 d, fun _ h => absurd h List.not_mem_nil⟩⟩⟩⟩⟩⟩) (cpyX (d + 2)) (by decide +kernel)
def Kc952 : Con := ((209, [(2, 0, 0, [150]), (0, iLo, iHi, []), (0, iLo, iHi, [])], []), [(150, 0, 0), (150, 11, 11), (160, 0, 4), (161, 0, 24)], [(some (0, (-1), (-1), []), [], []), (some (0, iLo, iHi, []), [(1, 0, 5), (2, 0, 60)], [])])
set_option maxRecDepth 20000 in
theorem vc952 {l : Launch} {X : Nat × (Nat → Int32)} {e : Int} (d : Nat) : Vc l X U0 Pt5 e (d + 3) Kc952 :=
  ck (d := (d + 2)) (Ks := [Kc915, Kc917, Kc942, Kc918, Kc945, Kc949]) (cy := 152) (cd := cdX7_drops) (nl := 4) (fuel := 1000) (Hs := []) (by decide) rfl (fun na b => by rw [← ceX7_drops]; exact tkX7_drops) (List.forall_mem_cons.mpr ⟨vc915 (d + 2), List.forall_mem_cons.mpr ⟨vc917 (d + 1), List.forall_mem_cons.mpr ⟨vc942 (d + 1), List.forall_mem_cons.mpr ⟨vc918 (d + 2), List.forall_mem_cons.mpr ⟨vc945 (d + 1), List.forall_mem_cons.mpr ⟨vc949 d, fun _ h => absurd h List.not_mem_nil⟩⟩⟩⟩⟩⟩) (cpyX (d + 2)) (by decide +kernel)
def Kc953 : Con := ((210, [(2, 0, 0, [150]), (0, iLo, iHi, [])], []), [(150, 0, 0), (150, 11, 11), (160, 0, 4), (161, 0, 24)], [(some (0, (-1), (-1), []), [], []), (some (0, (-2), (-2), []), [], []), (some (0, 1, 60, []), [], [])])
set_option maxRecDepth 20000 in
theorem vc953 {l : Launch} {X : Nat × (Nat → Int32)} {e : Int} (d : Nat) : Vc l X U0 Pt5 e (d + 3) Kc953 :=
  ck (d := (d + 2)) (Ks := [Kc915, Kc917, Kc918, Kc949, Kc948]) (cy := 152) (cd := cdX7_dropsIn) (nl := 3) (fuel := 1000) (Hs := [((25, 0), ([(0, (2, 0, 0, [150])), (1, (0, 1, 0, [])), (2, (0, 2, 0, []))], [], [(0, 0), (0, 5), (1, 61)], []), [(0, 1, 0), (0, 2, 0)], (122, [(2, (-2))]), [])]) (by decide) rfl (fun na b => by rw [← ceX7_dropsIn]; exact tkX7_dropsIn) (List.forall_mem_cons.mpr ⟨vc915 (d + 2), List.forall_mem_cons.mpr ⟨vc917 (d + 1), List.forall_mem_cons.mpr ⟨vc918 (d + 2), List.forall_mem_cons.mpr ⟨vc949 d, List.forall_mem_cons.mpr ⟨vc948 (d + 1), fun _ h => absurd h List.not_mem_nil⟩⟩⟩⟩⟩) (cpyX (d + 2)) (by decide +kernel)
def Kc954 : Con := ((211, [(2, 0, 0, [150]), (0, iLo, iHi, [])], []), [(150, 0, 0), (150, 11, 11), (160, 0, 4), (161, 0, 24)], [(some (0, (-1), (-1), []), [], []), (some (0, (-2), (-2), []), [], []), (some (0, 0, 60, []), [], [])])
set_option maxRecDepth 20000 in
theorem vc954 {l : Launch} {X : Nat × (Nat → Int32)} {e : Int} (d : Nat) : Vc l X U0 Pt5 e (d + 3) Kc954 :=
  ck (d := (d + 2)) (Ks := [Kc915, Kc917, Kc918, Kc949, Kc948]) (cy := 152) (cd := cdX7_fallsIn) (nl := 3) (fuel := 1000) (Hs := [((25, 0), ([(0, (2, 0, 0, [150])), (1, (0, 1, 0, [])), (2, (0, 2, 0, []))], [], [(0, 0), (0, 5), (0, 61)], []), [(0, 1, 0), (0, 2, 0)], (122, [(2, (-2))]), [])]) (by decide) rfl (fun na b => by rw [← ceX7_fallsIn]; exact tkX7_fallsIn) (List.forall_mem_cons.mpr ⟨vc915 (d + 2), List.forall_mem_cons.mpr ⟨vc917 (d + 1), List.forall_mem_cons.mpr ⟨vc918 (d + 2), List.forall_mem_cons.mpr ⟨vc949 d, List.forall_mem_cons.mpr ⟨vc948 (d + 1), fun _ h => absurd h List.not_mem_nil⟩⟩⟩⟩⟩) (cpyX (d + 2)) (by decide +kernel)
def Kc955 : Con := ((149, [(0, iLo, iHi, []), (0, 1, 1, []), (0, 60, 60, [])], []), [], [(some (0, 0, 0, []), [], []), (some (0, 1, 1, []), [(0, 1, 60)], [])])
set_option maxRecDepth 20000 in
theorem vc955 {l : Launch} {X : Nat × (Nat → Int32)} {e : Int} (d : Nat) : Vc l X U0 Pt5 e d Kc955 :=
  ck (d := d) (Ks := []) (cy := 152) (cd := cdX7_in) (nl := 3) (fuel := 1000) (Hs := []) (by decide) rfl (fun na b => by rw [← ceX7_in]; exact tkX7_in) (fun _ h => absurd h List.not_mem_nil) (cpyX d) (by decide +kernel)
def Kc956 : Con := ((206, [(2, 0, 0, [150]), (0, 1, 1, []), (0, 1, 1, []), (0, iLo, iHi, [])], []), [], [(some (0, 2, 2, []), [], []), (some (0, 0, 0, []), [(3, 1, 60)], [])])
set_option maxRecDepth 20000 in
theorem vc956 {l : Launch} {X : Nat × (Nat → Int32)} {e : Int} (d : Nat) : Vc l X U0 Pt5 e (d + 1) Kc956 :=
  ck (d := d) (Ks := [Kc955, Kc943, Kc944]) (cy := 152) (cd := cdX7_aheadWhy) (nl := 4) (fuel := 1000) (Hs := []) (by decide) rfl (fun na b => by rw [← ceX7_aheadWhy]; exact tkX7_aheadWhy) (List.forall_mem_cons.mpr ⟨vc955 d, List.forall_mem_cons.mpr ⟨vc943 d, List.forall_mem_cons.mpr ⟨vc944 d, fun _ h => absurd h List.not_mem_nil⟩⟩⟩) (cpyX d) (by decide +kernel)
def Kc957 : Con := ((212, [(2, 0, 0, [150]), (0, iLo, iHi, [])], []), [(150, 0, 0), (150, 11, 11), (160, 0, 4), (161, 0, 24)], [(some (0, (-1), (-1), []), [], []), (some (0, iLo, iHi, []), [(1, 1, 60)], [])])
set_option maxRecDepth 20000 in
theorem vc957 {l : Launch} {X : Nat × (Nat → Int32)} {e : Int} (d : Nat) : Vc l X U0 Pt5 e (d + 3) Kc957 :=
  ck (d := (d + 2)) (Ks := [Kc915, Kc956, Kc918, Kc949]) (cy := 152) (cd := cdX7_wet) (nl := 3) (fuel := 1000) (Hs := []) (by decide) rfl (fun na b => by rw [← ceX7_wet]; exact tkX7_wet) (List.forall_mem_cons.mpr ⟨vc915 (d + 2), List.forall_mem_cons.mpr ⟨vc956 (d + 1), List.forall_mem_cons.mpr ⟨vc918 (d + 2), List.forall_mem_cons.mpr ⟨vc949 d, fun _ h => absurd h List.not_mem_nil⟩⟩⟩⟩) (cpyX (d + 2)) (by decide +kernel)
def Kc958 : Con := ((213, [(2, 0, 0, [150]), (0, 0, 19, []), (0, 0, 60, [])], []), [(160, 0, 4), (161, 0, 24)], [(some (0, iLo, iHi, []), [], [])])
set_option maxRecDepth 20000 in
theorem vc958 {l : Launch} {X : Nat × (Nat → Int32)} {e : Int} (d : Nat) : Vc l X U0 Pt5 e (d + 3) Kc958 :=
  ck (d := (d + 2)) (Ks := [Kc949, Kc948]) (cy := 152) (cd := cdX7_wetOften) (nl := 5) (fuel := 1000) (Hs := [((10, 0), ([(0, (2, 0, 0, [150])), (1, (0, 1, 0, [])), (2, (0, 2, 0, [])), (3, (0, 3, 0, [])), (4, (0, 4, 0, []))], [], [(0, 0), (0, 19), (0, 60), (iLo, iHi), (1, 61)], []), [(0, 1, 0), (0, 2, 0), (0, 3, 0), (0, 4, 0)], (122, [(4, (-2))]), [])]) (by decide) rfl (fun na b => by rw [← ceX7_wetOften]; exact tkX7_wetOften) (List.forall_mem_cons.mpr ⟨vc949 d, List.forall_mem_cons.mpr ⟨vc948 (d + 1), fun _ h => absurd h List.not_mem_nil⟩⟩) (cpyX (d + 2)) (by decide +kernel)
def Kc959 : Con := ((214, [(2, 0, 0, [150]), (0, iLo, iHi, []), (0, iLo, iHi, [])], []), [(150, 0, 0), (150, 11, 11), (160, 0, 4), (161, 0, 24)], [(some (0, (-1), (-1), []), [], []), (some (0, iLo, iHi, []), [(1, 0, 19), (2, 0, 60)], [])])
set_option maxRecDepth 20000 in
theorem vc959 {l : Launch} {X : Nat × (Nat → Int32)} {e : Int} (d : Nat) : Vc l X U0 Pt5 e (d + 4) Kc959 :=
  ck (d := (d + 3)) (Ks := [Kc915, Kc928, Kc942, Kc918, Kc945, Kc958]) (cy := 152) (cd := cdX7_wetDays) (nl := 4) (fuel := 1000) (Hs := []) (by decide) rfl (fun na b => by rw [← ceX7_wetDays]; exact tkX7_wetDays) (List.forall_mem_cons.mpr ⟨vc915 (d + 3), List.forall_mem_cons.mpr ⟨vc928 (d + 2), List.forall_mem_cons.mpr ⟨vc942 (d + 2), List.forall_mem_cons.mpr ⟨vc918 (d + 3), List.forall_mem_cons.mpr ⟨vc945 (d + 2), List.forall_mem_cons.mpr ⟨vc958 d, fun _ h => absurd h List.not_mem_nil⟩⟩⟩⟩⟩⟩) (cpyX (d + 3)) (by decide +kernel)
def Kc960 : Con := ((213, [(2, 0, 0, [150]), (0, 0, 0, []), (0, 60, 60, [])], []), [(160, 0, 4), (161, 0, 24)], [(some (0, iLo, iHi, []), [], [])])
set_option maxRecDepth 20000 in
theorem vc960 {l : Launch} {X : Nat × (Nat → Int32)} {e : Int} (d : Nat) : Vc l X U0 Pt5 e (d + 3) Kc960 :=
  ck (d := (d + 2)) (Ks := [Kc949, Kc948]) (cy := 152) (cd := cdX7_wetOften) (nl := 5) (fuel := 1000) (Hs := [((10, 0), ([(0, (2, 0, 0, [150])), (1, (0, 1, 0, [])), (2, (0, 2, 0, [])), (3, (0, 3, 0, [])), (4, (0, 4, 0, []))], [], [(0, 0), (0, 0), (60, 60), (iLo, iHi), (1, 61)], []), [(0, 1, 0), (0, 2, 0), (0, 3, 0), (0, 4, 0)], (122, [(4, (-2))]), [])]) (by decide) rfl (fun na b => by rw [← ceX7_wetOften]; exact tkX7_wetOften) (List.forall_mem_cons.mpr ⟨vc949 d, List.forall_mem_cons.mpr ⟨vc948 (d + 1), fun _ h => absurd h List.not_mem_nil⟩⟩) (cpyX (d + 2)) (by decide +kernel)
def Kc961 : Con := ((213, [(2, 0, 0, [150]), (0, 1, 19, []), (0, 60, 60, [])], []), [(160, 0, 4), (161, 0, 24)], [(some (0, iLo, iHi, []), [], [])])
set_option maxRecDepth 20000 in
theorem vc961 {l : Launch} {X : Nat × (Nat → Int32)} {e : Int} (d : Nat) : Vc l X U0 Pt5 e (d + 3) Kc961 :=
  ck (d := (d + 2)) (Ks := [Kc949, Kc948]) (cy := 152) (cd := cdX7_wetOften) (nl := 5) (fuel := 1000) (Hs := [((10, 0), ([(0, (2, 0, 0, [150])), (1, (0, 1, 0, [])), (2, (0, 2, 0, [])), (3, (0, 3, 0, [])), (4, (0, 4, 0, []))], [], [(0, 0), (1, 19), (60, 60), (iLo, iHi), (1, 61)], []), [(0, 1, 0), (0, 2, 0), (0, 3, 0), (0, 4, 0)], (122, [(4, (-2))]), [])]) (by decide) rfl (fun na b => by rw [← ceX7_wetOften]; exact tkX7_wetOften) (List.forall_mem_cons.mpr ⟨vc949 d, List.forall_mem_cons.mpr ⟨vc948 (d + 1), fun _ h => absurd h List.not_mem_nil⟩⟩) (cpyX (d + 2)) (by decide +kernel)
def Kc962 : Con := ((215, [(2, 0, 0, [150])], []), [(150, 0, 0), (150, 11, 11), (160, 0, 4), (161, 0, 24)], [(some (0, 0, 19, []), [], [])])
set_option maxRecDepth 20000 in
theorem vc962 {l : Launch} {X : Nat × (Nat → Int32)} {e : Int} (d : Nat) : Vc l X U0 Pt5 e (d + 4) Kc962 :=
  ck (d := (d + 3)) (Ks := [Kc915, Kc960, Kc926, Kc961]) (cy := 152) (cd := cdX7_wettest) (nl := 5) (fuel := 1000) (Hs := [((29, 0), ([(0, (2, 0, 0, [150])), (1, (0, 1, 0, [])), (2, (0, 2, 0, [])), (3, (0, 3, 0, []))], [], [(0, 0), (0, 19), (iLo, iHi), (1, 20)], []), [(0, 1, 0), (0, 2, 0), (0, 3, 0)], (40, [(3, (-2))]), [])]) (by decide) rfl (fun na b => by rw [← ceX7_wettest]; exact tkX7_wettest) (List.forall_mem_cons.mpr ⟨vc915 (d + 3), List.forall_mem_cons.mpr ⟨vc960 d, List.forall_mem_cons.mpr ⟨vc926 (d + 3), List.forall_mem_cons.mpr ⟨vc961 d, fun _ h => absurd h List.not_mem_nil⟩⟩⟩⟩) (cpyX (d + 3)) (by decide +kernel)
def Kc963 : Con := ((216, [(2, 0, 0, [150])], []), [(150, 0, 0), (150, 11, 11), (160, 0, 4), (161, 0, 24)], [(some (0, (-2), (-2), []), [], []), (some (0, 1, 60, []), [], [])])
set_option maxRecDepth 20000 in
theorem vc963 {l : Launch} {X : Nat × (Nat → Int32)} {e : Int} (d : Nat) : Vc l X U0 Pt5 e (d + 3) Kc963 :=
  ck (d := (d + 2)) (Ks := [Kc915, Kc949, Kc948]) (cy := 152) (cd := cdX7_sunny) (nl := 2) (fuel := 1000) (Hs := [((24, 0), ([(0, (2, 0, 0, [150])), (1, (0, 1, 0, []))], [], [(0, 0), (1, 61)], []), [(0, 1, 0)], (122, [(1, (-2))]), [])]) (by decide) rfl (fun na b => by rw [← ceX7_sunny]; exact tkX7_sunny) (List.forall_mem_cons.mpr ⟨vc915 (d + 2), List.forall_mem_cons.mpr ⟨vc949 d, List.forall_mem_cons.mpr ⟨vc948 (d + 1), fun _ h => absurd h List.not_mem_nil⟩⟩⟩) (cpyX (d + 2)) (by decide +kernel)
def Kc964 : Con := ((217, [(2, 0, 0, [150])], []), [(150, 0, 0), (150, 11, 11), (160, 0, 4), (161, 0, 24)], [(some (0, iLo, iHi, []), [], [])])
set_option maxRecDepth 20000 in
theorem vc964 {l : Launch} {X : Nat × (Nat → Int32)} {e : Int} (d : Nat) : Vc l X U0 Pt5 e (d + 3) Kc964 :=
  ck (d := (d + 2)) (Ks := [Kc915, Kc949, Kc948]) (cy := 152) (cd := cdX7_heaviest) (nl := 4) (fuel := 1000) (Hs := [((26, 0), ([(0, (2, 0, 0, [150])), (1, (0, 1, 0, [])), (2, (0, 2, 0, []))], [], [(0, 0), (iLo, iHi), (1, 61)], []), [(0, 1, 0), (0, 2, 0)], (1486, [(2, (-24))]), []), ((43, 0), ([(0, (2, 0, 0, [150])), (1, (0, 1, 0, [])), (2, (0, 2, 0, [])), (3, (0, 3, 0, []))], [], [(0, 0), (iLo, iHi), (1, 60), (0, 6)], []), [(0, 1, 0), (0, 2, 0), (0, 3, 0)], (1482, [(2, (-24)), (3, (-3))]), [])]) (by decide) rfl (fun na b => by rw [← ceX7_heaviest]; exact tkX7_heaviest) (List.forall_mem_cons.mpr ⟨vc915 (d + 2), List.forall_mem_cons.mpr ⟨vc949 d, List.forall_mem_cons.mpr ⟨vc948 (d + 1), fun _ h => absurd h List.not_mem_nil⟩⟩⟩) (cpyX (d + 2)) (by decide +kernel)
def Kc965 : Con := ((196, [(2, 0, 0, [150]), (2, 0, 0, [161])], []), [], [(some (0, iLo, iHi, []), [], [])])
set_option maxRecDepth 20000 in
theorem vc965 {l : Launch} {X : Nat × (Nat → Int32)} {e : Int} (d : Nat) : Vc l X U0 Pt5 e d Kc965 :=
  ck (d := d) (Ks := []) (cy := 152) (cd := cdX7_fallenOn) (nl := 4) (fuel := 1000) (Hs := [((4, 0), ([(0, (2, 0, 0, [150])), (1, (2, 0, 0, [161])), (2, (0, 1, 0, [])), (3, (0, 2, 0, []))], [], [(0, 0), (iLo, iHi), (0, 6)], []), [(0, 2, 0), (0, 3, 0)], (12, [(2, (-2))]), [])]) (by decide) rfl (fun na b => by rw [← ceX7_fallenOn]; exact tkX7_fallenOn) (fun _ h => absurd h List.not_mem_nil) (cpyX d) (by decide +kernel)
def Kc966 : Con := ((218, [(2, 0, 0, [150]), (0, iLo, iHi, [])], []), [(150, 0, 0), (150, 11, 11), (160, 0, 4), (161, 0, 24)], [(some (0, (-1), (-1), []), [], []), (some (0, iLo, iHi, []), [(1, 0, 60)], [])])
set_option maxRecDepth 20000 in
theorem vc966 {l : Launch} {X : Nat × (Nat → Int32)} {e : Int} (d : Nat) : Vc l X U0 Pt5 e (d + 3) Kc966 :=
  ck (d := (d + 2)) (Ks := [Kc915, Kc945, Kc918, Kc949, Kc965]) (cy := 152) (cd := cdX7_fallen) (nl := 3) (fuel := 1000) (Hs := []) (by decide) rfl (fun na b => by rw [← ceX7_fallen]; exact tkX7_fallen) (List.forall_mem_cons.mpr ⟨vc915 (d + 2), List.forall_mem_cons.mpr ⟨vc945 (d + 1), List.forall_mem_cons.mpr ⟨vc918 (d + 2), List.forall_mem_cons.mpr ⟨vc949 d, List.forall_mem_cons.mpr ⟨vc965 (d + 2), fun _ h => absurd h List.not_mem_nil⟩⟩⟩⟩⟩) (cpyX (d + 2)) (by decide +kernel)
def Kc967 : Con := ((149, [(0, iLo, iHi, []), (0, 1, 1, []), (0, 30, 30, [])], []), [], [(some (0, 0, 0, []), [], []), (some (0, 1, 1, []), [(0, 1, 30)], [])])
set_option maxRecDepth 20000 in
theorem vc967 {l : Launch} {X : Nat × (Nat → Int32)} {e : Int} (d : Nat) : Vc l X U0 Pt5 e d Kc967 :=
  ck (d := d) (Ks := []) (cy := 152) (cd := cdX7_in) (nl := 3) (fuel := 1000) (Hs := []) (by decide) rfl (fun na b => by rw [← ceX7_in]; exact tkX7_in) (fun _ h => absurd h List.not_mem_nil) (cpyX d) (by decide +kernel)
def Kc968 : Con := ((222, [(2, 0, 0, [150]), (0, 0, 0, []), (0, iLo, iHi, [])], []), [], [(some (0, 1, 1, []), [], [])])
set_option maxRecDepth 20000 in
theorem vc968 {l : Launch} {X : Nat × (Nat → Int32)} {e : Int} (d : Nat) : Vc l X U0 Pt5 e (d + 1) Kc968 :=
  ck (d := d) (Ks := [Kc967, Kc940, Kc941]) (cy := 152) (cd := cdX7_planWhy) (nl := 3) (fuel := 1000) (Hs := []) (by decide) rfl (fun na b => by rw [← ceX7_planWhy]; exact tkX7_planWhy) (List.forall_mem_cons.mpr ⟨vc967 d, List.forall_mem_cons.mpr ⟨vc940 d, List.forall_mem_cons.mpr ⟨vc941 d, fun _ h => absurd h List.not_mem_nil⟩⟩⟩) (cpyX d) (by decide +kernel)
def Kc969 : Con := ((222, [(2, 0, 0, [150]), (0, 1, 1, []), (0, iLo, iHi, [])], []), [], [(some (0, 2, 2, []), [], []), (some (0, 0, 0, []), [(2, 1, 30)], [])])
set_option maxRecDepth 20000 in
theorem vc969 {l : Launch} {X : Nat × (Nat → Int32)} {e : Int} (d : Nat) : Vc l X U0 Pt5 e (d + 1) Kc969 :=
  ck (d := d) (Ks := [Kc967, Kc943, Kc944]) (cy := 152) (cd := cdX7_planWhy) (nl := 3) (fuel := 1000) (Hs := []) (by decide) rfl (fun na b => by rw [← ceX7_planWhy]; exact tkX7_planWhy) (List.forall_mem_cons.mpr ⟨vc967 d, List.forall_mem_cons.mpr ⟨vc943 d, List.forall_mem_cons.mpr ⟨vc944 d, fun _ h => absurd h List.not_mem_nil⟩⟩⟩) (cpyX d) (by decide +kernel)
def Kc970 : Con := ((221, [(2, 0, 0, [150]), (0, 0, 4, []), (0, 0, 5, [])], []), [], [(some (0, 0, 0, []), [], []), (some (0, 1, 1, []), [], [])])
set_option maxRecDepth 20000 in
theorem vc970 {l : Launch} {X : Nat × (Nat → Int32)} {e : Int} (d : Nat) : Vc l X U0 Pt5 e (d + 1) Kc970 :=
  ck (d := d) (Ks := [Kc920]) (cy := 152) (cd := cdX7_mayHave) (nl := 3) (fuel := 1000) (Hs := []) (by decide) rfl (fun na b => by rw [← ceX7_mayHave]; exact tkX7_mayHave) (List.forall_mem_cons.mpr ⟨vc920 d, fun _ h => absurd h List.not_mem_nil⟩) (cpyX d) (by decide +kernel)
def Kc971 : Con := ((219, [(2, 0, 0, [150])], []), [(162, 0, 4)], [(none, [], [])])
set_option maxRecDepth 20000 in
theorem vc971 {l : Launch} {X : Nat × (Nat → Int32)} {e : Int} (d : Nat) : Vc l X U0 Pt5 e d Kc971 :=
  ck (d := d) (Ks := []) (cy := 152) (cd := cdX7_planAsNow) (nl := 2) (fuel := 1000) (Hs := [((2, 0), ([(0, (2, 0, 0, [150])), (1, (0, 1, 0, []))], [], [(0, 0), (0, 5)], []), [(0, 1, 0)], (10, [(1, (-2))]), [])]) (by decide) rfl (fun na b => by rw [← ceX7_planAsNow]; exact tkX7_planAsNow) (fun _ h => absurd h List.not_mem_nil) (cpyX d) (by decide +kernel)
def Kc972 : Con := ((151, [(0, iLo, iHi, [])], []), [], [(some (0, iLo, iHi, []), [], [])])
set_option maxRecDepth 20000 in
theorem vc972 {l : Launch} {X : Nat × (Nat → Int32)} {e : Int} (d : Nat) : Vc l X U0 Pt5 e d Kc972 :=
  ck (d := d) (Ks := []) (cy := 152) (cd := cdX7_ones) (nl := 3) (fuel := 1000) (Hs := [((4, 0), ([(0, (0, 1, 0, [])), (1, (0, 2, 0, [])), (2, (0, 3, 0, []))], [], [(0, 0), (iLo, iHi), (iLo, iHi), (0, 8)], []), [(0, 0, 0), (0, 1, 0), (0, 2, 0)], (16, [(3, (-2))]), [])]) (by decide) rfl (fun na b => by rw [← ceX7_ones]; exact tkX7_ones) (fun _ h => absurd h List.not_mem_nil) (cpyX d) (by decide +kernel)
def Kc973 : Con := ((196, [(2, 0, 0, [150]), (2, 0, 0, [157])], []), [], [(some (0, iLo, iHi, []), [], [])])
set_option maxRecDepth 20000 in
theorem vc973 {l : Launch} {X : Nat × (Nat → Int32)} {e : Int} (d : Nat) : Vc l X U0 Pt5 e d Kc973 :=
  ck (d := d) (Ks := []) (cy := 152) (cd := cdX7_fallenOn) (nl := 4) (fuel := 1000) (Hs := [((4, 0), ([(0, (2, 0, 0, [150])), (1, (2, 0, 0, [157])), (2, (0, 1, 0, [])), (3, (0, 2, 0, []))], [], [(0, 0), (iLo, iHi), (0, 6)], []), [(0, 2, 0), (0, 3, 0)], (12, [(2, (-2))]), [])]) (by decide) rfl (fun na b => by rw [← ceX7_fallenOn]; exact tkX7_fallenOn) (fun _ h => absurd h List.not_mem_nil) (cpyX d) (by decide +kernel)
def Kc974 : Con := ((195, [(2, 0, 0, [150]), (2, 0, 0, [161])], []), [], [(some (0, iLo, iHi, []), [], [])])
set_option maxRecDepth 20000 in
theorem vc974 {l : Launch} {X : Nat × (Nat → Int32)} {e : Int} (d : Nat) : Vc l X U0 Pt5 e d Kc974 :=
  ck (d := d) (Ks := []) (cy := 152) (cd := cdX7_letsOf) (nl := 4) (fuel := 1000) (Hs := [((4, 0), ([(0, (2, 0, 0, [150])), (1, (2, 0, 0, [161])), (2, (0, 1, 0, [])), (3, (0, 2, 0, []))], [], [(0, 0), (iLo, iHi), (0, 6)], []), [(0, 2, 0), (0, 3, 0)], (12, [(2, (-2))]), [])]) (by decide) rfl (fun na b => by rw [← ceX7_letsOf]; exact tkX7_letsOf) (fun _ h => absurd h List.not_mem_nil) (cpyX d) (by decide +kernel)
def Kc975 : Con := ((195, [(2, 0, 0, [150]), (2, 0, 0, [157])], []), [], [(some (0, iLo, iHi, []), [], [])])
set_option maxRecDepth 20000 in
theorem vc975 {l : Launch} {X : Nat × (Nat → Int32)} {e : Int} (d : Nat) : Vc l X U0 Pt5 e d Kc975 :=
  ck (d := d) (Ks := []) (cy := 152) (cd := cdX7_letsOf) (nl := 4) (fuel := 1000) (Hs := [((4, 0), ([(0, (2, 0, 0, [150])), (1, (2, 0, 0, [157])), (2, (0, 1, 0, [])), (3, (0, 2, 0, []))], [], [(0, 0), (iLo, iHi), (0, 6)], []), [(0, 2, 0), (0, 3, 0)], (12, [(2, (-2))]), [])]) (by decide) rfl (fun na b => by rw [← ceX7_letsOf]; exact tkX7_letsOf) (fun _ h => absurd h List.not_mem_nil) (cpyX d) (by decide +kernel)
def Kc976 : Con := ((220, [(2, 0, 0, [150]), (0, iLo, iHi, [])], []), [(150, 29, 30), (160, 0, 4), (161, 0, 24)], [(none, [], [])])
set_option maxRecDepth 20000 in
theorem vc976 {l : Launch} {X : Nat × (Nat → Int32)} {e : Int} (d : Nat) : Vc l X U0 Pt5 e (d + 2) Kc976 :=
  ck (d := (d + 1)) (Ks := [Kc946, Kc965, Kc972, Kc973, Kc974, Kc975, Kc948]) (cy := 152) (cd := cdX7_goByPlan) (nl := 3) (fuel := 1000) (Hs := [((22, 0), ([(0, (2, 0, 0, [150])), (1, (0, 1, 0, [])), (2, (0, 2, 0, []))], [], [(0, 0), (iLo, iHi), (0, 5)], []), [(0, 1, 0), (0, 2, 0)], (6442450960, [(2, (-3))]), []), ((55, 0), ([(0, (2, 0, 0, [150])), (1, (0, 1, 0, [])), (2, (0, 2, 0, []))], [], [(0, 0), (iLo, iHi), (0, iHi)], []), [(0, 1, 0), (0, 2, 0)], (6442450941, [(2, (-3))]), [])]) (by decide) rfl (fun na b => by rw [← ceX7_goByPlan]; exact tkX7_goByPlan) (List.forall_mem_cons.mpr ⟨vc946 d, List.forall_mem_cons.mpr ⟨vc965 (d + 1), List.forall_mem_cons.mpr ⟨vc972 (d + 1), List.forall_mem_cons.mpr ⟨vc973 (d + 1), List.forall_mem_cons.mpr ⟨vc974 (d + 1), List.forall_mem_cons.mpr ⟨vc975 (d + 1), List.forall_mem_cons.mpr ⟨vc948 d, fun _ h => absurd h List.not_mem_nil⟩⟩⟩⟩⟩⟩⟩) (cpyX (d + 1)) (by decide +kernel)
def Kc977 : Con := ((223, [(2, 0, 0, [150]), (0, iLo, iHi, []), (0, iLo, iHi, []), (0, iLo, iHi, [])], []), [(150, 0, 0), (150, 11, 11), (150, 29, 30), (160, 0, 4), (161, 0, 24), (162, 0, 4)], [(some (0, (-1), (-1), []), [], []), (some (0, iLo, iHi, []), [(1, 0, 4), (2, 0, 5), (3, 1, 30)], [])])
set_option maxRecDepth 20000 in
theorem vc977 {l : Launch} {X : Nat × (Nat → Int32)} {e : Int} (d : Nat) : Vc l X U0 Pt5 e (d + 3) Kc977 :=
  ck (d := (d + 2)) (Ks := [Kc915, Kc923, Kc968, Kc918, Kc917, Kc969, Kc970, Kc971, Kc976]) (cy := 152) (cd := cdX7_dropsIf) (nl := 5) (fuel := 1000) (Hs := []) (by decide) rfl (fun na b => by rw [← ceX7_dropsIf]; exact tkX7_dropsIf) (List.forall_mem_cons.mpr ⟨vc915 (d + 2), List.forall_mem_cons.mpr ⟨vc923 (d + 1), List.forall_mem_cons.mpr ⟨vc968 (d + 1), List.forall_mem_cons.mpr ⟨vc918 (d + 2), List.forall_mem_cons.mpr ⟨vc917 (d + 1), List.forall_mem_cons.mpr ⟨vc969 (d + 1), List.forall_mem_cons.mpr ⟨vc970 (d + 1), List.forall_mem_cons.mpr ⟨vc971 (d + 2), List.forall_mem_cons.mpr ⟨vc976 d, fun _ h => absurd h List.not_mem_nil⟩⟩⟩⟩⟩⟩⟩⟩⟩) (cpyX (d + 2)) (by decide +kernel)
def Kc978 : Con := ((224, [(2, 0, 0, [150]), (0, iLo, iHi, [])], []), [(150, 29, 32), (160, 0, 4), (161, 0, 24), (163, 0, 4)], [(some (0, 1, 1, []), [], []), (some (0, 0, 0, []), [], [])])
set_option maxRecDepth 20000 in
theorem vc978 {l : Launch} {X : Nat × (Nat → Int32)} {e : Int} (d : Nat) : Vc l X U0 Pt5 e (d + 3) Kc978 :=
  ck (d := (d + 2)) (Ks := [Kc976]) (cy := 152) (cd := cdX7_isBest) (nl := 2) (fuel := 1000) (Hs := []) (by decide) rfl (fun na b => by rw [← ceX7_isBest]; exact tkX7_isBest) (List.forall_mem_cons.mpr ⟨vc976 d, fun _ h => absurd h List.not_mem_nil⟩) (cpyX (d + 2)) (by decide +kernel)
def Kc979 : Con := ((225, [(2, 0, 0, [150]), (0, iLo, iHi, []), (0, iLo, iHi, [])], []), [(150, 0, 0), (150, 11, 11), (150, 29, 32), (160, 0, 4), (161, 0, 24), (162, 0, 4), (163, 0, 4)], [(some (0, (-1), (-1), []), [], []), (some (0, (-2), 5, []), [], [])])
set_option maxRecDepth 20000 in
theorem vc979 {l : Launch} {X : Nat × (Nat → Int32)} {e : Int} (d : Nat) : Vc l X U0 Pt5 e (d + 4) Kc979 :=
  ck (d := (d + 3)) (Ks := [Kc915, Kc923, Kc968, Kc918, Kc969, Kc971, Kc970, Kc978]) (cy := 152) (cd := cdX7_faceFor) (nl := 6) (fuel := 1000) (Hs := [((42, 0), ([(0, (2, 0, 0, [150])), (1, (0, 1, 0, [])), (2, (0, 2, 0, [])), (4, (0, 3, 0, [])), (5, (0, 4, 0, []))], [], [(0, 0), (0, 4), (1, 30), ((-2), 5), (0, 6)], []), [(0, 1, 0), (0, 2, 0), (0, 4, 0), (0, 5, 0)], (12, [(4, (-2))]), [])]) (by decide) rfl (fun na b => by rw [← ceX7_faceFor]; exact tkX7_faceFor) (List.forall_mem_cons.mpr ⟨vc915 (d + 3), List.forall_mem_cons.mpr ⟨vc923 (d + 2), List.forall_mem_cons.mpr ⟨vc968 (d + 2), List.forall_mem_cons.mpr ⟨vc918 (d + 3), List.forall_mem_cons.mpr ⟨vc969 (d + 2), List.forall_mem_cons.mpr ⟨vc971 (d + 3), List.forall_mem_cons.mpr ⟨vc970 (d + 2), List.forall_mem_cons.mpr ⟨vc978 d, fun _ h => absurd h List.not_mem_nil⟩⟩⟩⟩⟩⟩⟩⟩) (cpyX (d + 3)) (by decide +kernel)
def Kc980 : Con := ((226, [(2, 0, 0, [150]), (0, 5, 5, []), (0, iLo, iHi, []), (0, iLo, iHi, [])], []), [(150, 29, 32), (160, 0, 4), (161, 0, 24), (163, 0, 4)], [(none, [], [])])
set_option maxRecDepth 20000 in
theorem vc980 {l : Launch} {X : Nat × (Nat → Int32)} {e : Int} (d : Nat) : Vc l X U0 Pt5 e (d + 4) Kc980 :=
  ck (d := (d + 3)) (Ks := [Kc978]) (cy := 152) (cd := cdX7_tryPlans) (nl := 5) (fuel := 1000) (Hs := []) (by decide) rfl (fun na b => by rw [← ceX7_tryPlans]; exact tkX7_tryPlans) (List.forall_mem_cons.mpr ⟨vc978 d, fun _ h => absurd h List.not_mem_nil⟩) (cpyX (d + 3)) (by decide +kernel)
def Kc981 : Con := ((226, [(2, 0, 0, [150]), (0, 4, 4, []), (0, iLo, iHi, []), (0, iLo, iHi, [])], []), [(150, 29, 32), (160, 0, 4), (161, 0, 24), (162, 4, 4), (163, 0, 4)], [(none, [], [])])
set_option maxRecDepth 20000 in
theorem vc981 {l : Launch} {X : Nat × (Nat → Int32)} {e : Int} (d : Nat) : Vc l X U0 Pt5 e (d + 5) Kc981 :=
  ck (d := (d + 4)) (Ks := [Kc933, Kc980]) (cy := 152) (cd := cdX7_tryPlans) (nl := 5) (fuel := 1000) (Hs := [((20, 0), ([(0, (2, 0, 0, [150])), (1, (0, 1, 0, [])), (2, (0, 2, 0, [])), (3, (0, 3, 0, [])), (4, (0, 4, 0, []))], [], [(0, 0), (4, 4), (iLo, iHi), (iLo, iHi), (0, 6)], []), [(0, 1, 0), (0, 2, 0), (0, 3, 0), (0, 4, 0)], (12, [(4, (-2))]), [])]) (by decide) rfl (fun na b => by rw [← ceX7_tryPlans]; exact tkX7_tryPlans) (List.forall_mem_cons.mpr ⟨vc933 (d + 4), List.forall_mem_cons.mpr ⟨vc980 d, fun _ h => absurd h List.not_mem_nil⟩⟩) (cpyX (d + 4)) (by decide +kernel)
def Kc982 : Con := ((226, [(2, 0, 0, [150]), (0, 3, 3, []), (0, iLo, iHi, []), (0, iLo, iHi, [])], []), [(150, 29, 32), (160, 0, 4), (161, 0, 24), (162, 3, 4), (163, 0, 4)], [(none, [], [])])
set_option maxRecDepth 20000 in
theorem vc982 {l : Launch} {X : Nat × (Nat → Int32)} {e : Int} (d : Nat) : Vc l X U0 Pt5 e (d + 6) Kc982 :=
  ck (d := (d + 5)) (Ks := [Kc933, Kc981]) (cy := 152) (cd := cdX7_tryPlans) (nl := 5) (fuel := 1000) (Hs := [((20, 0), ([(0, (2, 0, 0, [150])), (1, (0, 1, 0, [])), (2, (0, 2, 0, [])), (3, (0, 3, 0, [])), (4, (0, 4, 0, []))], [], [(0, 0), (3, 3), (iLo, iHi), (iLo, iHi), (0, 6)], []), [(0, 1, 0), (0, 2, 0), (0, 3, 0), (0, 4, 0)], (12, [(4, (-2))]), [])]) (by decide) rfl (fun na b => by rw [← ceX7_tryPlans]; exact tkX7_tryPlans) (List.forall_mem_cons.mpr ⟨vc933 (d + 5), List.forall_mem_cons.mpr ⟨vc981 d, fun _ h => absurd h List.not_mem_nil⟩⟩) (cpyX (d + 5)) (by decide +kernel)
def Kc983 : Con := ((226, [(2, 0, 0, [150]), (0, 2, 2, []), (0, iLo, iHi, []), (0, iLo, iHi, [])], []), [(150, 29, 32), (160, 0, 4), (161, 0, 24), (162, 2, 4), (163, 0, 4)], [(none, [], [])])
set_option maxRecDepth 20000 in
theorem vc983 {l : Launch} {X : Nat × (Nat → Int32)} {e : Int} (d : Nat) : Vc l X U0 Pt5 e (d + 7) Kc983 :=
  ck (d := (d + 6)) (Ks := [Kc933, Kc982]) (cy := 152) (cd := cdX7_tryPlans) (nl := 5) (fuel := 1000) (Hs := [((20, 0), ([(0, (2, 0, 0, [150])), (1, (0, 1, 0, [])), (2, (0, 2, 0, [])), (3, (0, 3, 0, [])), (4, (0, 4, 0, []))], [], [(0, 0), (2, 2), (iLo, iHi), (iLo, iHi), (0, 6)], []), [(0, 1, 0), (0, 2, 0), (0, 3, 0), (0, 4, 0)], (12, [(4, (-2))]), [])]) (by decide) rfl (fun na b => by rw [← ceX7_tryPlans]; exact tkX7_tryPlans) (List.forall_mem_cons.mpr ⟨vc933 (d + 6), List.forall_mem_cons.mpr ⟨vc982 d, fun _ h => absurd h List.not_mem_nil⟩⟩) (cpyX (d + 6)) (by decide +kernel)
def Kc984 : Con := ((226, [(2, 0, 0, [150]), (0, 1, 1, []), (0, iLo, iHi, []), (0, iLo, iHi, [])], []), [(150, 29, 32), (160, 0, 4), (161, 0, 24), (162, 1, 4), (163, 0, 4)], [(none, [], [])])
set_option maxRecDepth 20000 in
theorem vc984 {l : Launch} {X : Nat × (Nat → Int32)} {e : Int} (d : Nat) : Vc l X U0 Pt5 e (d + 8) Kc984 :=
  ck (d := (d + 7)) (Ks := [Kc933, Kc983]) (cy := 152) (cd := cdX7_tryPlans) (nl := 5) (fuel := 1000) (Hs := [((20, 0), ([(0, (2, 0, 0, [150])), (1, (0, 1, 0, [])), (2, (0, 2, 0, [])), (3, (0, 3, 0, [])), (4, (0, 4, 0, []))], [], [(0, 0), (1, 1), (iLo, iHi), (iLo, iHi), (0, 6)], []), [(0, 1, 0), (0, 2, 0), (0, 3, 0), (0, 4, 0)], (12, [(4, (-2))]), [])]) (by decide) rfl (fun na b => by rw [← ceX7_tryPlans]; exact tkX7_tryPlans) (List.forall_mem_cons.mpr ⟨vc933 (d + 7), List.forall_mem_cons.mpr ⟨vc983 d, fun _ h => absurd h List.not_mem_nil⟩⟩) (cpyX (d + 7)) (by decide +kernel)
def Kc985 : Con := ((226, [(2, 0, 0, [150]), (0, 0, 0, []), (0, iLo, iHi, []), (0, iLo, iHi, [])], []), [(150, 29, 32), (160, 0, 4), (161, 0, 24), (162, 0, 4), (163, 0, 4)], [(none, [], [])])
set_option maxRecDepth 20000 in
theorem vc985 {l : Launch} {X : Nat × (Nat → Int32)} {e : Int} (d : Nat) : Vc l X U0 Pt5 e (d + 9) Kc985 :=
  ck (d := (d + 8)) (Ks := [Kc933, Kc984]) (cy := 152) (cd := cdX7_tryPlans) (nl := 5) (fuel := 1000) (Hs := [((20, 0), ([(0, (2, 0, 0, [150])), (1, (0, 1, 0, [])), (2, (0, 2, 0, [])), (3, (0, 3, 0, [])), (4, (0, 4, 0, []))], [], [(0, 0), (0, 0), (iLo, iHi), (iLo, iHi), (0, 6)], []), [(0, 1, 0), (0, 2, 0), (0, 3, 0), (0, 4, 0)], (12, [(4, (-2))]), [])]) (by decide) rfl (fun na b => by rw [← ceX7_tryPlans]; exact tkX7_tryPlans) (List.forall_mem_cons.mpr ⟨vc933 (d + 8), List.forall_mem_cons.mpr ⟨vc984 d, fun _ h => absurd h List.not_mem_nil⟩⟩) (cpyX (d + 8)) (by decide +kernel)
def Kc986 : Con := ((227, [(2, 0, 0, [150]), (0, iLo, iHi, [])], []), [(150, 29, 32), (160, 0, 4), (161, 0, 24), (162, 0, 4), (163, 0, 4)], [(none, [], [])])
set_option maxRecDepth 20000 in
theorem vc986 {l : Launch} {X : Nat × (Nat → Int32)} {e : Int} (d : Nat) : Vc l X U0 Pt5 e (d + 10) Kc986 :=
  ck (d := (d + 9)) (Ks := [Kc985]) (cy := 152) (cd := cdX7_seekMatch) (nl := 2) (fuel := 1000) (Hs := []) (by decide) rfl (fun na b => by rw [← ceX7_seekMatch]; exact tkX7_seekMatch) (List.forall_mem_cons.mpr ⟨vc985 d, fun _ h => absurd h List.not_mem_nil⟩) (cpyX (d + 9)) (by decide +kernel)
def Kc987 : Con := ((228, [(2, 0, 0, [150]), (0, iLo, iHi, [])], []), [(150, 0, 0), (150, 11, 11), (150, 29, 32), (160, 0, 4), (161, 0, 24), (162, 0, 4), (163, 0, 4)], [(some (0, (-1), (-1), []), [], []), (some (0, iLo, iHi, []), [(1, 1, 30)], [])])
set_option maxRecDepth 20000 in
theorem vc987 {l : Launch} {X : Nat × (Nat → Int32)} {e : Int} (d : Nat) : Vc l X U0 Pt5 e (d + 11) Kc987 :=
  ck (d := (d + 10)) (Ks := [Kc915, Kc969, Kc918, Kc986]) (cy := 152) (cd := cdX7_match) (nl := 3) (fuel := 1000) (Hs := []) (by decide) rfl (fun na b => by rw [← ceX7_match]; exact tkX7_match) (List.forall_mem_cons.mpr ⟨vc915 (d + 10), List.forall_mem_cons.mpr ⟨vc969 (d + 9), List.forall_mem_cons.mpr ⟨vc918 (d + 10), List.forall_mem_cons.mpr ⟨vc986 d, fun _ h => absurd h List.not_mem_nil⟩⟩⟩⟩) (cpyX (d + 10)) (by decide +kernel)
def Kc988 : Con := ((229, [(2, 0, 0, [150]), (0, iLo, iHi, [])], []), [(150, 0, 0), (150, 11, 11), (150, 29, 32), (160, 0, 4), (161, 0, 24), (162, 0, 4), (163, 0, 4)], [(some (0, (-1), (-1), []), [], []), (some (0, iLo, iHi, []), [(1, 1, 30)], [])])
set_option maxRecDepth 20000 in
theorem vc988 {l : Launch} {X : Nat × (Nat → Int32)} {e : Int} (d : Nat) : Vc l X U0 Pt5 e (d + 11) Kc988 :=
  ck (d := (d + 10)) (Ks := [Kc915, Kc969, Kc918, Kc986]) (cy := 152) (cd := cdX7_matchDrops) (nl := 3) (fuel := 1000) (Hs := []) (by decide) rfl (fun na b => by rw [← ceX7_matchDrops]; exact tkX7_matchDrops) (List.forall_mem_cons.mpr ⟨vc915 (d + 10), List.forall_mem_cons.mpr ⟨vc969 (d + 9), List.forall_mem_cons.mpr ⟨vc918 (d + 10), List.forall_mem_cons.mpr ⟨vc986 d, fun _ h => absurd h List.not_mem_nil⟩⟩⟩⟩) (cpyX (d + 10)) (by decide +kernel)
def Kc989 : Con := ((230, [(2, 0, 0, [150]), (0, iLo, iHi, []), (0, iLo, iHi, [])], []), [(150, 0, 0), (150, 11, 11), (150, 29, 32), (160, 0, 4), (161, 0, 24), (162, 0, 4), (163, 0, 4)], [(some (0, (-1), (-1), []), [], []), (some (0, 0, 5, []), [(1, 0, 4), (2, 1, 30)], [])])
set_option maxRecDepth 20000 in
theorem vc989 {l : Launch} {X : Nat × (Nat → Int32)} {e : Int} (d : Nat) : Vc l X U0 Pt5 e (d + 11) Kc989 :=
  ck (d := (d + 10)) (Ks := [Kc915, Kc923, Kc968, Kc918, Kc969, Kc986]) (cy := 152) (cd := cdX7_matchAt) (nl := 4) (fuel := 1000) (Hs := []) (by decide) rfl (fun na b => by rw [← ceX7_matchAt]; exact tkX7_matchAt) (List.forall_mem_cons.mpr ⟨vc915 (d + 10), List.forall_mem_cons.mpr ⟨vc923 (d + 9), List.forall_mem_cons.mpr ⟨vc968 (d + 9), List.forall_mem_cons.mpr ⟨vc918 (d + 10), List.forall_mem_cons.mpr ⟨vc969 (d + 9), List.forall_mem_cons.mpr ⟨vc986 d, fun _ h => absurd h List.not_mem_nil⟩⟩⟩⟩⟩⟩) (cpyX (d + 10)) (by decide +kernel)
def Kc990 : Con := ((232, [(2, 0, 0, [150]), (0, 0, 19, []), (0, iLo, iHi, [])], []), [(164, 0, 19)], [(none, [], [])])
set_option maxRecDepth 20000 in
theorem vc990 {l : Launch} {X : Nat × (Nat → Int32)} {e : Int} (d : Nat) : Vc l X U0 Pt5 e (d + 4) Kc990 := vh_lay (R := rwt5) rfl rfl rfl d
def Kc991 : Con := ((233, [(2, 0, 0, [150]), (0, 0, 19, []), (0, 0, 19, [])], []), [(164, 0, 19)], [(some (0, iLo, iHi, []), [], []), (some (0, (-2), (-2), []), [], [])])
set_option maxRecDepth 20000 in
theorem vc991 {l : Launch} {X : Nat × (Nat → Int32)} {e : Int} (d : Nat) : Vc l X U0 Pt5 e (d + 5) Kc991 :=
  ck (d := (d + 4)) (Ks := [Kc990]) (cy := 152) (cd := cdX7_stepsOf) (nl := 3) (fuel := 1000) (Hs := []) (by decide) rfl (fun na b => by rw [← ceX7_stepsOf]; exact tkX7_stepsOf) (List.forall_mem_cons.mpr ⟨vc990 d, fun _ h => absurd h List.not_mem_nil⟩) (cpyX (d + 4)) (by decide +kernel)
def Kc992 : Con := ((234, [(2, 0, 0, [150]), (0, iLo, iHi, []), (0, iLo, iHi, [])], []), [(150, 0, 0), (150, 11, 11), (150, 26, 26), (164, 0, 19)], [(some (0, (-1), (-1), []), [], []), (some (0, iLo, iHi, []), [(1, 0, 19), (2, 0, 19)], []), (some (0, (-2), (-2), []), [(1, 0, 19), (2, 0, 19)], [])])
set_option maxRecDepth 20000 in
theorem vc992 {l : Launch} {X : Nat × (Nat → Int32)} {e : Int} (d : Nat) : Vc l X U0 Pt5 e (d + 6) Kc992 :=
  ck (d := (d + 5)) (Ks := [Kc915, Kc928, Kc918, Kc991]) (cy := 152) (cd := cdX7_steps) (nl := 3) (fuel := 1000) (Hs := []) (by decide) rfl (fun na b => by rw [← ceX7_steps]; exact tkX7_steps) (List.forall_mem_cons.mpr ⟨vc915 (d + 5), List.forall_mem_cons.mpr ⟨vc928 (d + 4), List.forall_mem_cons.mpr ⟨vc918 (d + 5), List.forall_mem_cons.mpr ⟨vc991 d, fun _ h => absurd h List.not_mem_nil⟩⟩⟩⟩) (cpyX (d + 5)) (by decide +kernel)
def Kc993 : Con := ((189, [(2, 0, 0, [150]), (0, iLo, iHi, [])], []), [], [(some (0, 0, 0, []), [], []), (some (0, 1, 1, []), [(1, 0, 3)], [])])
set_option maxRecDepth 20000 in
theorem vc993 {l : Launch} {X : Nat × (Nat → Int32)} {e : Int} (d : Nat) : Vc l X U0 Pt5 e (d + 1) Kc993 :=
  ck (d := d) (Ks := [Kc932]) (cy := 152) (cd := cdX7_isWalker) (nl := 2) (fuel := 1000) (Hs := []) (by decide) rfl (fun na b => by rw [← ceX7_isWalker]; exact tkX7_isWalker) (List.forall_mem_cons.mpr ⟨vc932 d, fun _ h => absurd h List.not_mem_nil⟩) (cpyX d) (by decide +kernel)
def Kc994 : Con := ((206, [(2, 0, 0, [150]), (0, 0, 0, []), (0, 1, 1, []), (0, iLo, iHi, [])], []), [], [(some (0, 1, 1, []), [], [])])
set_option maxRecDepth 20000 in
theorem vc994 {l : Launch} {X : Nat × (Nat → Int32)} {e : Int} (d : Nat) : Vc l X U0 Pt5 e (d + 1) Kc994 :=
  ck (d := d) (Ks := [Kc955, Kc940, Kc941]) (cy := 152) (cd := cdX7_aheadWhy) (nl := 4) (fuel := 1000) (Hs := []) (by decide) rfl (fun na b => by rw [← ceX7_aheadWhy]; exact tkX7_aheadWhy) (List.forall_mem_cons.mpr ⟨vc955 d, List.forall_mem_cons.mpr ⟨vc940 d, List.forall_mem_cons.mpr ⟨vc941 d, fun _ h => absurd h List.not_mem_nil⟩⟩⟩) (cpyX d) (by decide +kernel)
def Kc995 : Con := ((235, [(2, 0, 0, [150]), (0, 0, 3, []), (0, 1, 60, [])], []), [(150, 26, 26), (160, 0, 4), (161, 0, 24), (164, 0, 19)], [(some (0, iLo, iHi, []), [], []), (some (0, (-2), (-2), []), [], [])])
set_option maxRecDepth 20000 in
theorem vc995 {l : Launch} {X : Nat × (Nat → Int32)} {e : Int} (d : Nat) : Vc l X U0 Pt5 e (d + 5) Kc995 :=
  ck (d := (d + 4)) (Ks := [Kc949, Kc990]) (cy := 152) (cd := cdX7_wayOf) (nl := 4) (fuel := 1000) (Hs := []) (by decide) rfl (fun na b => by rw [← ceX7_wayOf]; exact tkX7_wayOf) (List.forall_mem_cons.mpr ⟨vc949 (d + 2), List.forall_mem_cons.mpr ⟨vc990 d, fun _ h => absurd h List.not_mem_nil⟩⟩) (cpyX (d + 4)) (by decide +kernel)
def Kc996 : Con := ((236, [(2, 0, 0, [150]), (0, iLo, iHi, []), (0, iLo, iHi, [])], []), [(150, 0, 0), (150, 11, 11), (150, 26, 26), (160, 0, 4), (161, 0, 24), (164, 0, 19)], [(some (0, (-1), (-1), []), [], []), (some (0, 0, iHi, []), [(1, 0, 3), (2, 1, 60)], []), (some (0, (-2), (-2), []), [(1, 0, 3), (2, 1, 60)], [])])
set_option maxRecDepth 20000 in
theorem vc996 {l : Launch} {X : Nat × (Nat → Int32)} {e : Int} (d : Nat) : Vc l X U0 Pt5 e (d + 6) Kc996 :=
  ck (d := (d + 5)) (Ks := [Kc915, Kc993, Kc994, Kc918, Kc956, Kc995]) (cy := 152) (cd := cdX7_wets) (nl := 5) (fuel := 1000) (Hs := []) (by decide) rfl (fun na b => by rw [← ceX7_wets]; exact tkX7_wets) (List.forall_mem_cons.mpr ⟨vc915 (d + 5), List.forall_mem_cons.mpr ⟨vc993 (d + 4), List.forall_mem_cons.mpr ⟨vc994 (d + 4), List.forall_mem_cons.mpr ⟨vc918 (d + 5), List.forall_mem_cons.mpr ⟨vc956 (d + 4), List.forall_mem_cons.mpr ⟨vc995 d, fun _ h => absurd h List.not_mem_nil⟩⟩⟩⟩⟩⟩) (cpyX (d + 5)) (by decide +kernel)
def Kc997 : Con := ((237, [(2, 0, 0, [150]), (0, iLo, iHi, []), (0, iLo, iHi, [])], []), [(150, 0, 0), (150, 11, 11), (150, 26, 26), (160, 0, 4), (161, 0, 24), (164, 0, 19)], [(some (0, (-1), (-1), []), [], []), (some (0, 0, 999, []), [(1, 0, 3), (2, 1, 60)], []), (some (0, (-2), (-2), []), [(1, 0, 3), (2, 1, 60)], [])])
set_option maxRecDepth 20000 in
theorem vc997 {l : Launch} {X : Nat × (Nat → Int32)} {e : Int} (d : Nat) : Vc l X U0 Pt5 e (d + 6) Kc997 :=
  ck (d := (d + 5)) (Ks := [Kc915, Kc993, Kc994, Kc918, Kc956, Kc995]) (cy := 152) (cd := cdX7_way) (nl := 5) (fuel := 1000) (Hs := []) (by decide) rfl (fun na b => by rw [← ceX7_way]; exact tkX7_way) (List.forall_mem_cons.mpr ⟨vc915 (d + 5), List.forall_mem_cons.mpr ⟨vc993 (d + 4), List.forall_mem_cons.mpr ⟨vc994 (d + 4), List.forall_mem_cons.mpr ⟨vc918 (d + 5), List.forall_mem_cons.mpr ⟨vc956 (d + 4), List.forall_mem_cons.mpr ⟨vc995 d, fun _ h => absurd h List.not_mem_nil⟩⟩⟩⟩⟩⟩) (cpyX (d + 5)) (by decide +kernel)
def Kc998 : Con := ((239, [(2, 0, 0, [150]), (0, iLo, iHi, [])], []), [(150, 0, 0), (150, 11, 11), (150, 26, 26), (160, 0, 4), (161, 0, 24), (164, 0, 19)], [(some (0, (-1), (-1), []), [], []), (some (0, (-2), (-2), []), [], []), (some (0, 1, 60, []), [], [])])
set_option maxRecDepth 20000 in
theorem vc998 {l : Launch} {X : Nat × (Nat → Int32)} {e : Int} (d : Nat) : Vc l X U0 Pt5 e (d + 6) Kc998 :=
  ck (d := (d + 5)) (Ks := [Kc915, Kc993, Kc918, Kc995]) (cy := 152) (cd := cdX7_dryDay) (nl := 4) (fuel := 1000) (Hs := [((20, 0), ([(0, (2, 0, 0, [150])), (1, (0, 1, 0, [])), (2, (0, 2, 0, []))], [], [(0, 0), (0, 3), (1, 61)], []), [(0, 1, 0), (0, 2, 0)], (122, [(2, (-2))]), [])]) (by decide) rfl (fun na b => by rw [← ceX7_dryDay]; exact tkX7_dryDay) (List.forall_mem_cons.mpr ⟨vc915 (d + 5), List.forall_mem_cons.mpr ⟨vc993 (d + 4), List.forall_mem_cons.mpr ⟨vc918 (d + 5), List.forall_mem_cons.mpr ⟨vc995 d, fun _ h => absurd h List.not_mem_nil⟩⟩⟩⟩) (cpyX (d + 5)) (by decide +kernel)
def Kc999 : Con := ((240, [(2, 0, 0, [150])], []), [(164, 0, 19)], [(some (0, iLo, iHi, []), [], [])])
set_option maxRecDepth 20000 in
theorem vc999 {l : Launch} {X : Nat × (Nat → Int32)} {e : Int} (d : Nat) : Vc l X U0 Pt5 e (d + 6) Kc999 :=
  ck (d := (d + 5)) (Ks := [Kc991]) (cy := 152) (cd := cdX7_allSteps) (nl := 4) (fuel := 1000) (Hs := [((4, 0), ([(0, (2, 0, 0, [150])), (1, (0, 1, 0, [])), (2, (0, 2, 0, []))], [], [(0, 0), (iLo, iHi), (0, 4)], []), [(0, 1, 0), (0, 2, 0)], (8, [(2, (-2))]), [])]) (by decide) rfl (fun na b => by rw [← ceX7_allSteps]; exact tkX7_allSteps) (List.forall_mem_cons.mpr ⟨vc991 d, fun _ h => absurd h List.not_mem_nil⟩) (cpyX (d + 5)) (by decide +kernel)
def Kc1000 : Con := ((241, [(2, 0, 0, [150])], []), [(150, 0, 0), (150, 11, 11), (150, 26, 26), (164, 0, 19)], [(some (0, (-2), 19, []), [], [])])
set_option maxRecDepth 20000 in
theorem vc1000 {l : Launch} {X : Nat × (Nat → Int32)} {e : Int} (d : Nat) : Vc l X U0 Pt5 e (d + 7) Kc1000 :=
  ck (d := (d + 6)) (Ks := [Kc915, Kc926, Kc933, Kc999]) (cy := 152) (cd := cdX7_gate) (nl := 5) (fuel := 1000) (Hs := [((26, 0), ([(0, (2, 0, 0, [150])), (1, (0, 1, 0, [])), (2, (0, 2, 0, [])), (3, (0, 3, 0, []))], [], [(0, 0), ((-2), 19), (iLo, 100000000), (0, 20)], []), [(0, 1, 0), (0, 2, 0), (0, 3, 0)], (40, [(3, (-2))]), [])]) (by decide) rfl (fun na b => by rw [← ceX7_gate]; exact tkX7_gate) (List.forall_mem_cons.mpr ⟨vc915 (d + 6), List.forall_mem_cons.mpr ⟨vc926 (d + 6), List.forall_mem_cons.mpr ⟨vc933 (d + 6), List.forall_mem_cons.mpr ⟨vc999 d, fun _ h => absurd h List.not_mem_nil⟩⟩⟩⟩) (cpyX (d + 6)) (by decide +kernel)
def Kc1001 : Con := ((242, [(2, 0, 0, [150]), (0, iLo, iHi, [])], []), [(160, 0, 4), (161, 0, 24), (165, 0, 5)], [(some (0, (-2), (-2), []), [], []), (some (0, 0, 5, []), [], [])])
set_option maxRecDepth 20000 in
theorem vc1001 {l : Launch} {X : Nat × (Nat → Int32)} {e : Int} (d : Nat) : Vc l X U0 Pt5 e (d + 2) Kc1001 :=
  ck (d := (d + 1)) (Ks := [Kc946, Kc948]) (cy := 152) (cd := cdX7_wrongBy) (nl := 4) (fuel := 1000) (Hs := [((22, 0), ([(0, (2, 0, 0, [150])), (2, (0, 1, 0, []))], [], [(0, 0), (0, 6)], []), [(0, 2, 0)], (1708, [(1, (-5))]), []), ((43, 0), ([(0, (2, 0, 0, [150])), (2, (0, 1, 0, []))], [], [(0, 0), (1, 41)], []), [(0, 2, 0)], (1712, [(1, (-40))]), []), ((60, 0), ([(0, (2, 0, 0, [150])), (2, (0, 1, 0, [])), (3, (0, 2, 0, []))], [], [(0, 0), (1, 40), (0, 6)], []), [(0, 2, 0), (0, 3, 0)], (1706, [(1, (-40)), (2, (-5))]), []), ((112, 0), ([(0, (2, 0, 0, [150])), (2, (0, 1, 0, []))], [], [(0, 0), (0, 6)], []), [(0, 2, 0)], (30, [(1, (-5))]), [])]) (by decide) rfl (fun na b => by rw [← ceX7_wrongBy]; exact tkX7_wrongBy) (List.forall_mem_cons.mpr ⟨vc946 d, List.forall_mem_cons.mpr ⟨vc948 d, fun _ h => absurd h List.not_mem_nil⟩⟩) (cpyX (d + 1)) (by decide +kernel)
def Kc1002 : Con := ((243, [(2, 0, 0, [150]), (0, iLo, iHi, [])], []), [(150, 36, 38), (160, 0, 4), (161, 0, 24), (165, 0, 5), (166, 0, 3)], [(some (0, (-1), 15, []), [], [])])
set_option maxRecDepth 20000 in
theorem vc1002 {l : Launch} {X : Nat × (Nat → Int32)} {e : Int} (d : Nat) : Vc l X U0 Pt5 e (d + 3) Kc1002 :=
  ck (d := (d + 2)) (Ks := [Kc1001]) (cy := 152) (cd := cdX7_seekSets) (nl := 5) (fuel := 1000) (Hs := [((29, 0), ([(0, (2, 0, 0, [150])), (1, (0, 1, 0, [])), (2, (0, 0, (-1), [])), (3, (0, 2, 0, []))], [], [(0, 0), (iLo, iHi), (0, 4), (0, 15)], [(150, 36, (0, 0, 0, [])), (150, 37, (0, 0, 0, [])), (150, 38, (0, 3, 0, []))]), [(0, 1, 0), (0, 3, 0), (2, 150, 38)], (426, [(2, (-4))]), []), ((49, 0), ([(0, (2, 0, 0, [150])), (1, (0, 1, 0, [])), (2, (0, 2, 0, [])), (3, (0, 3, 0, []))], [], [(0, 0), (iLo, iHi), ((-1), 15), (0, 16), (iLo, iHi), (iLo, iHi), (0, 15)], [(150, 36, (0, 4, 0, [])), (150, 37, (0, 5, 0, [])), (150, 38, (0, 6, 0, []))]), [(0, 1, 0), (0, 2, 0), (0, 3, 0), (2, 150, 36), (2, 150, 37), (2, 150, 38)], (405, [(3, (-24))]), []), ((118, 0), ([(0, (2, 0, 0, [150])), (1, (0, 1, 0, [])), (2, (0, 2, 0, [])), (3, (0, 3, 0, [])), (4, (0, 4, 0, []))], [], [(0, 0), (iLo, iHi), ((-1), 15), (0, 15), (0, 4), (iLo, iHi), (iLo, iHi), (0, 15)], [(150, 36, (0, 5, 0, [])), (150, 37, (0, 6, 0, [])), (150, 38, (0, 7, 0, []))]), [(0, 1, 0), (0, 2, 0), (0, 3, 0), (0, 4, 0), (2, 150, 36), (2, 150, 37), (2, 150, 38)], (400, [(3, (-24)), (4, (-4))]), [])]) (by decide) rfl (fun na b => by rw [← ceX7_seekSets]; exact tkX7_seekSets) (List.forall_mem_cons.mpr ⟨vc1001 d, fun _ h => absurd h List.not_mem_nil⟩) (cpyX (d + 2)) (by decide +kernel)
def Kc1003 : Con := ((244, [(2, 0, 0, [150])], []), [(150, 0, 0), (150, 11, 11), (150, 36, 38), (160, 0, 4), (161, 0, 24), (165, 0, 5), (166, 0, 3)], [(some (0, iLo, iHi, []), [], [])])
set_option maxRecDepth 20000 in
theorem vc1003 {l : Launch} {X : Nat × (Nat → Int32)} {e : Int} (d : Nat) : Vc l X U0 Pt5 e (d + 4) Kc1003 :=
  ck (d := (d + 3)) (Ks := [Kc915, Kc1002]) (cy := 152) (cd := cdX7_fits) (nl := 1) (fuel := 1000) (Hs := []) (by decide) rfl (fun na b => by rw [← ceX7_fits]; exact tkX7_fits) (List.forall_mem_cons.mpr ⟨vc915 (d + 3), List.forall_mem_cons.mpr ⟨vc1002 d, fun _ h => absurd h List.not_mem_nil⟩⟩) (cpyX (d + 3)) (by decide +kernel)
def Kc1004 : Con := ((245, [(2, 0, 0, [150]), (0, iLo, iHi, [])], []), [(150, 0, 0), (150, 11, 11), (150, 36, 38), (160, 0, 4), (161, 0, 24), (165, 0, 5), (166, 0, 3)], [(some (0, 0, 15, []), [(1, 0, iHi)], []), (some (0, (-1), (-1), []), [], [])])
set_option maxRecDepth 20000 in
theorem vc1004 {l : Launch} {X : Nat × (Nat → Int32)} {e : Int} (d : Nat) : Vc l X U0 Pt5 e (d + 4) Kc1004 :=
  ck (d := (d + 3)) (Ks := [Kc915, Kc1002, Kc918]) (cy := 152) (cd := cdX7_fitAt) (nl := 3) (fuel := 1000) (Hs := []) (by decide) rfl (fun na b => by rw [← ceX7_fitAt]; exact tkX7_fitAt) (List.forall_mem_cons.mpr ⟨vc915 (d + 3), List.forall_mem_cons.mpr ⟨vc1002 d, List.forall_mem_cons.mpr ⟨vc918 (d + 3), fun _ h => absurd h List.not_mem_nil⟩⟩⟩) (cpyX (d + 3)) (by decide +kernel)
def Kc1005 : Con := ((246, [(2, 0, 0, [150])], []), [(150, 0, 0), (150, 11, 11), (150, 36, 38), (160, 0, 4), (161, 0, 24), (165, 0, 5), (166, 0, 3)], [(some (0, iLo, iHi, []), [], [])])
set_option maxRecDepth 20000 in
theorem vc1005 {l : Launch} {X : Nat × (Nat → Int32)} {e : Int} (d : Nat) : Vc l X U0 Pt5 e (d + 4) Kc1005 :=
  ck (d := (d + 3)) (Ks := [Kc915, Kc1002]) (cy := 152) (cd := cdX7_could) (nl := 1) (fuel := 1000) (Hs := []) (by decide) rfl (fun na b => by rw [← ceX7_could]; exact tkX7_could) (List.forall_mem_cons.mpr ⟨vc915 (d + 3), List.forall_mem_cons.mpr ⟨vc1002 d, fun _ h => absurd h List.not_mem_nil⟩⟩) (cpyX (d + 3)) (by decide +kernel)
def Kc1006 : Con := ((247, [(2, 0, 0, [150])], []), [(150, 0, 0), (150, 11, 11), (150, 36, 38), (160, 0, 4), (161, 0, 24), (165, 0, 5), (166, 0, 3)], [(some (0, iLo, iHi, []), [], [])])
set_option maxRecDepth 20000 in
theorem vc1006 {l : Launch} {X : Nat × (Nat → Int32)} {e : Int} (d : Nat) : Vc l X U0 Pt5 e (d + 4) Kc1006 :=
  ck (d := (d + 3)) (Ks := [Kc915, Kc1002]) (cy := 152) (cd := cdX7_surely) (nl := 1) (fuel := 1000) (Hs := []) (by decide) rfl (fun na b => by rw [← ceX7_surely]; exact tkX7_surely) (List.forall_mem_cons.mpr ⟨vc915 (d + 3), List.forall_mem_cons.mpr ⟨vc1002 d, fun _ h => absurd h List.not_mem_nil⟩⟩) (cpyX (d + 3)) (by decide +kernel)
def Kc1007 : Con := ((248, [(2, 0, 0, [150]), (0, 0, 3, [])], []), [], [(some (0, iLo, iHi, []), [], [])])
set_option maxRecDepth 20000 in
theorem vc1007 {l : Launch} {X : Nat × (Nat → Int32)} {e : Int} (d : Nat) : Vc l X U0 Pt5 e d Kc1007 :=
  ck (d := d) (Ks := []) (cy := 152) (cd := cdX7_leavesOf) (nl := 2) (fuel := 1000) (Hs := []) (by decide) rfl (fun na b => by rw [← ceX7_leavesOf]; exact tkX7_leavesOf) (fun _ h => absurd h List.not_mem_nil) (cpyX d) (by decide +kernel)
def Kc1008 : Con := ((249, [(2, 0, 0, [150])], []), [(150, 36, 38), (160, 0, 4), (161, 0, 24), (165, 0, 5), (166, 0, 3)], [(some (0, (-2), 3, []), [], [])])
set_option maxRecDepth 20000 in
theorem vc1008 {l : Launch} {X : Nat × (Nat → Int32)} {e : Int} (d : Nat) : Vc l X U0 Pt5 e (d + 4) Kc1008 :=
  ck (d := (d + 3)) (Ks := [Kc1002, Kc1007]) (cy := 152) (cd := cdX7_askOf) (nl := 3) (fuel := 1000) (Hs := [((11, 0), ([(0, (2, 0, 0, [150])), (1, (0, 1, 0, [])), (2, (0, 2, 0, []))], [], [(0, 0), ((-2), 3), (0, 4)], []), [(0, 1, 0), (0, 2, 0)], (8, [(2, (-2))]), [])]) (by decide) rfl (fun na b => by rw [← ceX7_askOf]; exact tkX7_askOf) (List.forall_mem_cons.mpr ⟨vc1002 d, List.forall_mem_cons.mpr ⟨vc1007 (d + 3), fun _ h => absurd h List.not_mem_nil⟩⟩) (cpyX (d + 3)) (by decide +kernel)
def Kc1009 : Con := ((250, [(2, 0, 0, [150])], []), [(150, 0, 0), (150, 11, 11), (150, 36, 38), (160, 0, 4), (161, 0, 24), (165, 0, 5), (166, 0, 3)], [(some (0, (-2), 3, []), [], [])])
set_option maxRecDepth 20000 in
theorem vc1009 {l : Launch} {X : Nat × (Nat → Int32)} {e : Int} (d : Nat) : Vc l X U0 Pt5 e (d + 5) Kc1009 :=
  ck (d := (d + 4)) (Ks := [Kc915, Kc1008]) (cy := 152) (cd := cdX7_ask) (nl := 1) (fuel := 1000) (Hs := []) (by decide) rfl (fun na b => by rw [← ceX7_ask]; exact tkX7_ask) (List.forall_mem_cons.mpr ⟨vc915 (d + 4), List.forall_mem_cons.mpr ⟨vc1008 d, fun _ h => absurd h List.not_mem_nil⟩⟩) (cpyX (d + 4)) (by decide +kernel)
def Kc1010 : Con := ((251, [(2, 0, 0, [150])], []), [(150, 0, 0), (150, 11, 11), (150, 36, 38), (160, 0, 4), (161, 0, 24), (165, 0, 5), (166, 0, 3)], [(some (0, iLo, iHi, []), [], []), (some (0, (-2), (-2), []), [], [])])
set_option maxRecDepth 20000 in
theorem vc1010 {l : Launch} {X : Nat × (Nat → Int32)} {e : Int} (d : Nat) : Vc l X U0 Pt5 e (d + 5) Kc1010 :=
  ck (d := (d + 4)) (Ks := [Kc915, Kc1008, Kc1007]) (cy := 152) (cd := cdX7_askLeaves) (nl := 2) (fuel := 1000) (Hs := []) (by decide) rfl (fun na b => by rw [← ceX7_askLeaves]; exact tkX7_askLeaves) (List.forall_mem_cons.mpr ⟨vc915 (d + 4), List.forall_mem_cons.mpr ⟨vc1008 d, List.forall_mem_cons.mpr ⟨vc1007 (d + 4), fun _ h => absurd h List.not_mem_nil⟩⟩⟩) (cpyX (d + 4)) (by decide +kernel)
def Kc1011 : Con := ((252, [(2, 0, 0, [150])], []), [(150, 0, 0), (150, 11, 11), (160, 0, 4), (161, 0, 24), (165, 0, 5)], [(some (0, (-2), (-2), []), [], []), (some (0, 0, 5, []), [], [])])
set_option maxRecDepth 20000 in
theorem vc1011 {l : Launch} {X : Nat × (Nat → Int32)} {e : Int} (d : Nat) : Vc l X U0 Pt5 e (d + 3) Kc1011 :=
  ck (d := (d + 2)) (Ks := [Kc915, Kc1001]) (cy := 152) (cd := cdX7_judge) (nl := 1) (fuel := 1000) (Hs := []) (by decide) rfl (fun na b => by rw [← ceX7_judge]; exact tkX7_judge) (List.forall_mem_cons.mpr ⟨vc915 (d + 2), List.forall_mem_cons.mpr ⟨vc1001 d, fun _ h => absurd h List.not_mem_nil⟩⟩) (cpyX (d + 2)) (by decide +kernel)
def Kc1012 : Con := ((149, [(0, iLo, iHi, []), (0, 0, 0, []), (0, 9, 9, [])], []), [], [(some (0, 0, 0, []), [], []), (some (0, 1, 1, []), [(0, 0, 9)], [])])
set_option maxRecDepth 20000 in
theorem vc1012 {l : Launch} {X : Nat × (Nat → Int32)} {e : Int} (d : Nat) : Vc l X U0 Pt5 e d Kc1012 :=
  ck (d := d) (Ks := []) (cy := 152) (cd := cdX7_in) (nl := 3) (fuel := 1000) (Hs := []) (by decide) rfl (fun na b => by rw [← ceX7_in]; exact tkX7_in) (fun _ h => absurd h List.not_mem_nil) (cpyX d) (by decide +kernel)
def Kc1013 : Con := ((253, [(0, iLo, iHi, []), (0, iLo, iHi, []), (0, iLo, iHi, [])], []), [], [(some (0, iLo, iHi, []), [], [])])
set_option maxRecDepth 20000 in
theorem vc1013 {l : Launch} {X : Nat × (Nat → Int32)} {e : Int} (d : Nat) : Vc l X U0 Pt5 e d Kc1013 :=
  ck (d := d) (Ks := []) (cy := 152) (cd := cdX7_canonHas) (nl := 3) (fuel := 1000) (Hs := []) (by decide) rfl (fun na b => by rw [← ceX7_canonHas]; exact tkX7_canonHas) (fun _ h => absurd h List.not_mem_nil) (cpyX d) (by decide +kernel)
def Kc1014 : Con := ((254, [(0, iLo, iHi, []), (0, iLo, iHi, [])], []), [], [(some (0, 0, 3, []), [], [])])
set_option maxRecDepth 20000 in
theorem vc1014 {l : Launch} {X : Nat × (Nat → Int32)} {e : Int} (d : Nat) : Vc l X U0 Pt5 e d Kc1014 :=
  ck (d := d) (Ks := []) (cy := 152) (cd := cdX7_breadHas) (nl := 2) (fuel := 1000) (Hs := []) (by decide) rfl (fun na b => by rw [← ceX7_breadHas]; exact tkX7_breadHas) (fun _ h => absurd h List.not_mem_nil) (cpyX d) (by decide +kernel)
def Kc1015 : Con := ((255, [(2, 0, 0, [150]), (0, iLo, iHi, []), (0, iLo, iHi, []), (0, iLo, iHi, []), (0, iLo, iHi, [])], []), [(150, 0, 0), (150, 11, 11)], [(some (0, (-100), (-100), []), [], []), (some (0, iLo, iHi, []), [(1, 0, 9)], [])])
set_option maxRecDepth 20000 in
theorem vc1015 {l : Launch} {X : Nat × (Nat → Int32)} {e : Int} (d : Nat) : Vc l X U0 Pt5 e (d + 1) Kc1015 :=
  ck (d := d) (Ks := [Kc915, Kc1012, Kc943, Kc944, Kc1013, Kc1014]) (cy := 152) (cd := cdX7_sulks) (nl := 6) (fuel := 1000) (Hs := []) (by decide) rfl (fun na b => by rw [← ceX7_sulks]; exact tkX7_sulks) (List.forall_mem_cons.mpr ⟨vc915 d, List.forall_mem_cons.mpr ⟨vc1012 d, List.forall_mem_cons.mpr ⟨vc943 d, List.forall_mem_cons.mpr ⟨vc944 d, List.forall_mem_cons.mpr ⟨vc1013 d, List.forall_mem_cons.mpr ⟨vc1014 d, fun _ h => absurd h List.not_mem_nil⟩⟩⟩⟩⟩⟩) (cpyX d) (by decide +kernel)
def Kc1016 : Con := ((256, [(2, 0, 0, [150]), (0, iLo, iHi, [])], []), [(150, 39, 39)], [(some (0, iLo, iHi, []), [], [])])
set_option maxRecDepth 20000 in
theorem vc1016 {l : Launch} {X : Nat × (Nat → Int32)} {e : Int} (d : Nat) : Vc l X U0 Pt5 e (d + 1) Kc1016 :=
  ck (d := d) (Ks := [Kc1013, Kc1014]) (cy := 152) (cd := cdX7_seekRests) (nl := 6) (fuel := 1000) (Hs := [((10, 0), ([(0, (2, 0, 0, [150])), (1, (0, 1, 0, [])), (2, (0, 2, 0, [])), (3, (0, 3, 0, []))], [], [(0, 0), (iLo, iHi), (iLo, iHi), (0, 4), ((-2), 31)], [(150, 39, (0, 4, 0, []))]), [(0, 1, 0), (0, 2, 0), (0, 3, 0), (2, 150, 39)], (8, [(3, (-2))]), [])]) (by decide) rfl (fun na b => by rw [← ceX7_seekRests]; exact tkX7_seekRests) (List.forall_mem_cons.mpr ⟨vc1013 d, List.forall_mem_cons.mpr ⟨vc1014 d, fun _ h => absurd h List.not_mem_nil⟩⟩) (cpyX d) (by decide +kernel)
def Kc1017 : Con := ((257, [(2, 0, 0, [150]), (0, iLo, iHi, [])], []), [(150, 0, 0), (150, 11, 11), (150, 39, 39)], [(some (0, (-1), (-1), []), [], []), (some (0, iLo, iHi, []), [(1, 0, 9)], [])])
set_option maxRecDepth 20000 in
theorem vc1017 {l : Launch} {X : Nat × (Nat → Int32)} {e : Int} (d : Nat) : Vc l X U0 Pt5 e (d + 2) Kc1017 :=
  ck (d := (d + 1)) (Ks := [Kc915, Kc1012, Kc943, Kc918, Kc944, Kc1016]) (cy := 152) (cd := cdX7_rests) (nl := 3) (fuel := 1000) (Hs := []) (by decide) rfl (fun na b => by rw [← ceX7_rests]; exact tkX7_rests) (List.forall_mem_cons.mpr ⟨vc915 (d + 1), List.forall_mem_cons.mpr ⟨vc1012 (d + 1), List.forall_mem_cons.mpr ⟨vc943 (d + 1), List.forall_mem_cons.mpr ⟨vc918 (d + 1), List.forall_mem_cons.mpr ⟨vc944 (d + 1), List.forall_mem_cons.mpr ⟨vc1016 d, fun _ h => absurd h List.not_mem_nil⟩⟩⟩⟩⟩⟩) (cpyX (d + 1)) (by decide +kernel)
def Kc1018 : Con := ((258, [(2, 0, 0, [150]), (0, iLo, iHi, [])], []), [(150, 0, 0), (150, 11, 11), (150, 39, 39)], [(some (0, (-1), (-1), []), [], []), (some (0, iLo, iHi, []), [(1, 0, 9)], [])])
set_option maxRecDepth 20000 in
theorem vc1018 {l : Launch} {X : Nat × (Nat → Int32)} {e : Int} (d : Nat) : Vc l X U0 Pt5 e (d + 2) Kc1018 :=
  ck (d := (d + 1)) (Ks := [Kc915, Kc1012, Kc943, Kc918, Kc944, Kc1016]) (cy := 152) (cd := cdX7_rest) (nl := 3) (fuel := 1000) (Hs := []) (by decide) rfl (fun na b => by rw [← ceX7_rest]; exact tkX7_rest) (List.forall_mem_cons.mpr ⟨vc915 (d + 1), List.forall_mem_cons.mpr ⟨vc1012 (d + 1), List.forall_mem_cons.mpr ⟨vc943 (d + 1), List.forall_mem_cons.mpr ⟨vc918 (d + 1), List.forall_mem_cons.mpr ⟨vc944 (d + 1), List.forall_mem_cons.mpr ⟨vc1016 d, fun _ h => absurd h List.not_mem_nil⟩⟩⟩⟩⟩⟩) (cpyX (d + 1)) (by decide +kernel)
def Kc1019 : Con := ((149, [(0, iLo, iHi, []), (0, 0, 0, []), (0, 7, 7, [])], []), [], [(some (0, 0, 0, []), [], []), (some (0, 1, 1, []), [(0, 0, 7)], [])])
set_option maxRecDepth 20000 in
theorem vc1019 {l : Launch} {X : Nat × (Nat → Int32)} {e : Int} (d : Nat) : Vc l X U0 Pt5 e d Kc1019 :=
  ck (d := d) (Ks := []) (cy := 152) (cd := cdX7_in) (nl := 3) (fuel := 1000) (Hs := []) (by decide) rfl (fun na b => by rw [← ceX7_in]; exact tkX7_in) (fun _ h => absurd h List.not_mem_nil) (cpyX d) (by decide +kernel)
def Kc1020 : Con := ((259, [(2, 0, 0, [150]), (0, 0, 5, []), (0, 0, 7, [])], []), [(150, 40, 42), (160, 0, 4), (161, 0, 24)], [(none, [], [(150, 40, (1, 1, lHi, []))])])
set_option maxRecDepth 20000 in
theorem vc1020 {l : Launch} {X : Nat × (Nat → Int32)} {e : Int} (d : Nat) : Vc l X U0 Pt5 e (d + 6) Kc1020 := vh_tryCalms (R := rwt5) rfl d ⟨fun M kr hI he h => vc949 (d + 3) [.ref 150, .int 0] M kr hI he ⟨⟨rfl, List.mem_singleton.mpr rfl⟩, ⟨rfl, by decide, by decide⟩, trivial⟩ (fun f hf => absurd hf List.not_mem_nil) (fun r M' hJ hp => by
  rw [r_none (by decide) hp]
  exact h M' (Jv_tr (Jv.rf hI he) hJ (by decide))), fun b M kr hb hI he h => vc948 (d + 4) [.ref 150, .ref 161, .int b] M kr hI he ⟨⟨rfl, List.mem_singleton.mpr rfl⟩, ⟨rfl, List.mem_singleton.mpr rfl⟩, ⟨rfl, i32_lo _, i32_hi _⟩, trivial⟩ (fun f hf => absurd hf List.not_mem_nil) (fun r M' hJ hp => by
  rw [r_none (by decide) hp]
  exact h M' (Jv_tr (Jv.rf hI he) hJ (by decide)))⟩
def Kc1021 : Con := ((153, [(1, lLo, lHi, []), (1, 1, lHi, []), (0, iLo, iHi, [])], []), [], [(some (1, lLo, lHi, []), [], [])])
set_option maxRecDepth 20000 in
theorem vc1021 {l : Launch} {X : Nat × (Nat → Int32)} {e : Int} (d : Nat) : Vc l X U0 Pt5 e (d + 0) Kc1021 := vh_lowI d
def Kc1022 : Con := ((260, [(2, 0, 0, [150]), (0, iLo, iHi, []), (0, iLo, iHi, []), (0, iLo, iHi, [])], []), [(150, 0, 0), (150, 11, 11), (150, 40, 42), (160, 0, 4), (161, 0, 24)], [(some (1, lLo, lHi, []), [], [])])
set_option maxRecDepth 20000 in
theorem vc1022 {l : Launch} {X : Nat × (Nat → Int32)} {e : Int} (d : Nat) : Vc l X U0 Pt5 e (d + 7) Kc1022 :=
  ck (d := (d + 6)) (Ks := [Kc915, Kc917, Kc1019, Kc940, Kc918, Kc941, Kc943, Kc944, Kc1020, Kc1021]) (cy := 152) (cd := cdX7_odds) (nl := 5) (fuel := 1000) (Hs := []) (by decide) rfl (fun na b => by rw [← ceX7_odds]; exact tkX7_odds) (List.forall_mem_cons.mpr ⟨vc915 (d + 6), List.forall_mem_cons.mpr ⟨vc917 (d + 5), List.forall_mem_cons.mpr ⟨vc1019 (d + 6), List.forall_mem_cons.mpr ⟨vc940 (d + 6), List.forall_mem_cons.mpr ⟨vc918 (d + 6), List.forall_mem_cons.mpr ⟨vc941 (d + 6), List.forall_mem_cons.mpr ⟨vc943 (d + 6), List.forall_mem_cons.mpr ⟨vc944 (d + 6), List.forall_mem_cons.mpr ⟨vc1020 d, List.forall_mem_cons.mpr ⟨vc1021 (d + 6), fun _ h => absurd h List.not_mem_nil⟩⟩⟩⟩⟩⟩⟩⟩⟩⟩) (cpyX (d + 6)) (by decide +kernel)
def Kc1023 : Con := ((261, [(2, 0, 0, [150]), (0, iLo, iHi, []), (0, iLo, iHi, []), (0, iLo, iHi, [])], []), [(150, 0, 0), (150, 11, 11), (150, 40, 42), (160, 0, 4), (161, 0, 24)], [(some (1, lLo, lHi, []), [], [])])
set_option maxRecDepth 20000 in
theorem vc1023 {l : Launch} {X : Nat × (Nat → Int32)} {e : Int} (d : Nat) : Vc l X U0 Pt5 e (d + 7) Kc1023 :=
  ck (d := (d + 6)) (Ks := [Kc915, Kc917, Kc1019, Kc940, Kc918, Kc941, Kc943, Kc944, Kc1020, Kc1021]) (cy := 152) (cd := cdX7_mean) (nl := 5) (fuel := 1000) (Hs := []) (by decide) rfl (fun na b => by rw [← ceX7_mean]; exact tkX7_mean) (List.forall_mem_cons.mpr ⟨vc915 (d + 6), List.forall_mem_cons.mpr ⟨vc917 (d + 5), List.forall_mem_cons.mpr ⟨vc1019 (d + 6), List.forall_mem_cons.mpr ⟨vc940 (d + 6), List.forall_mem_cons.mpr ⟨vc918 (d + 6), List.forall_mem_cons.mpr ⟨vc941 (d + 6), List.forall_mem_cons.mpr ⟨vc943 (d + 6), List.forall_mem_cons.mpr ⟨vc944 (d + 6), List.forall_mem_cons.mpr ⟨vc1020 d, List.forall_mem_cons.mpr ⟨vc1021 (d + 6), fun _ h => absurd h List.not_mem_nil⟩⟩⟩⟩⟩⟩⟩⟩⟩⟩) (cpyX (d + 6)) (by decide +kernel)
def Kc1024 : Con := ((149, [(0, iLo, iHi, []), (0, 0, 0, []), (0, 65536, 65536, [])], []), [], [(some (0, 0, 0, []), [], []), (some (0, 1, 1, []), [(0, 0, 65536)], [])])
set_option maxRecDepth 20000 in
theorem vc1024 {l : Launch} {X : Nat × (Nat → Int32)} {e : Int} (d : Nat) : Vc l X U0 Pt5 e d Kc1024 :=
  ck (d := d) (Ks := []) (cy := 152) (cd := cdX7_in) (nl := 3) (fuel := 1000) (Hs := []) (by decide) rfl (fun na b => by rw [← ceX7_in]; exact tkX7_in) (fun _ h => absurd h List.not_mem_nil) (cpyX d) (by decide +kernel)
def Kc1025 : Con := ((262, [(2, 0, 0, [150]), (0, 0, 0, []), (0, iLo, iHi, []), (0, iLo, iHi, [])], []), [], [(some (0, 1, 1, []), [], [])])
set_option maxRecDepth 20000 in
theorem vc1025 {l : Launch} {X : Nat × (Nat → Int32)} {e : Int} (d : Nat) : Vc l X U0 Pt5 e (d + 1) Kc1025 :=
  ck (d := d) (Ks := [Kc1024, Kc940, Kc939, Kc941]) (cy := 152) (cd := cdX7_drawWhy) (nl := 7) (fuel := 1000) (Hs := []) (by decide) rfl (fun na b => by rw [← ceX7_drawWhy]; exact tkX7_drawWhy) (List.forall_mem_cons.mpr ⟨vc1024 d, List.forall_mem_cons.mpr ⟨vc940 d, List.forall_mem_cons.mpr ⟨vc939 d, List.forall_mem_cons.mpr ⟨vc941 d, fun _ h => absurd h List.not_mem_nil⟩⟩⟩⟩) (cpyX d) (by decide +kernel)
def Kc1026 : Con := ((262, [(2, 0, 0, [150]), (0, 1, 1, []), (0, iLo, iHi, []), (0, iLo, iHi, [])], []), [(150, 43, 43), (160, 0, 4), (161, 0, 24)], [(some (0, 2, 2, []), [], []), (some (0, 0, 0, []), [(2, 0, 65536), (3, 0, 60)], [])])
set_option maxRecDepth 20000 in
theorem vc1026 {l : Launch} {X : Nat × (Nat → Int32)} {e : Int} (d : Nat) : Vc l X U0 Pt5 e (d + 3) Kc1026 :=
  ck (d := (d + 2)) (Ks := [Kc1024, Kc943, Kc939, Kc944, Kc949, Kc948]) (cy := 152) (cd := cdX7_drawWhy) (nl := 7) (fuel := 1000) (Hs := [((58, 0), ([(0, (2, 0, 0, [150])), (3, (0, 1, 0, [])), (5, (0, 2, 0, [])), (6, (0, 3, 0, [])), (1000, (2, 0, 0, [150])), (1001, (0, 4, 0, [])), (1002, (0, 5, 0, [])), (1003, (0, 1, 0, []))], [], [(0, 0), (0, 60), (0, 65536), (1, 61), (1, 1), (0, 65536), ((-2), 60)], [(150, 43, (0, 6, 0, []))]), [(0, 3, 0), (0, 5, 0), (0, 6, 0), (0, 1001, 0), (0, 1002, 0), (2, 150, 43)], (122, [(3, (-2))]), [])]) (by decide) rfl (fun na b => by rw [← ceX7_drawWhy]; exact tkX7_drawWhy) (List.forall_mem_cons.mpr ⟨vc1024 (d + 2), List.forall_mem_cons.mpr ⟨vc943 (d + 2), List.forall_mem_cons.mpr ⟨vc939 (d + 2), List.forall_mem_cons.mpr ⟨vc944 (d + 2), List.forall_mem_cons.mpr ⟨vc949 d, List.forall_mem_cons.mpr ⟨vc948 (d + 1), fun _ h => absurd h List.not_mem_nil⟩⟩⟩⟩⟩⟩) (cpyX (d + 2)) (by decide +kernel)
def Kc1027 : Con := ((263, [(2, 0, 0, [150]), (0, iLo, iHi, []), (0, iLo, iHi, []), (0, iLo, iHi, [])], []), [(150, 0, 0), (150, 11, 11), (150, 43, 43), (160, 0, 4), (161, 0, 24)], [(some (0, (-1), (-1), []), [], []), (some (0, iLo, iHi, []), [(1, 0, 5), (2, 0, 65536), (3, 0, 60)], [])])
set_option maxRecDepth 20000 in
theorem vc1027 {l : Launch} {X : Nat × (Nat → Int32)} {e : Int} (d : Nat) : Vc l X U0 Pt5 e (d + 4) Kc1027 :=
  ck (d := (d + 3)) (Ks := [Kc915, Kc917, Kc1025, Kc918, Kc1026]) (cy := 152) (cd := cdX7_borne) (nl := 5) (fuel := 1000) (Hs := []) (by decide) rfl (fun na b => by rw [← ceX7_borne]; exact tkX7_borne) (List.forall_mem_cons.mpr ⟨vc915 (d + 3), List.forall_mem_cons.mpr ⟨vc917 (d + 2), List.forall_mem_cons.mpr ⟨vc1025 (d + 2), List.forall_mem_cons.mpr ⟨vc918 (d + 3), List.forall_mem_cons.mpr ⟨vc1026 d, fun _ h => absurd h List.not_mem_nil⟩⟩⟩⟩⟩) (cpyX (d + 3)) (by decide +kernel)
def Kc1028 : Con := ((264, [(2, 0, 0, [150]), (0, iLo, iHi, []), (0, iLo, iHi, [])], []), [(150, 0, 0), (150, 11, 11), (150, 43, 43), (160, 0, 4), (161, 0, 24)], [(some (0, (-1), (-1), []), [], []), (some (0, iLo, iHi, []), [(1, 0, 65536), (2, 0, 60)], [])])
set_option maxRecDepth 20000 in
theorem vc1028 {l : Launch} {X : Nat × (Nat → Int32)} {e : Int} (d : Nat) : Vc l X U0 Pt5 e (d + 4) Kc1028 :=
  ck (d := (d + 3)) (Ks := [Kc915, Kc1026, Kc918]) (cy := 152) (cd := cdX7_firstWet) (nl := 4) (fuel := 1000) (Hs := []) (by decide) rfl (fun na b => by rw [← ceX7_firstWet]; exact tkX7_firstWet) (List.forall_mem_cons.mpr ⟨vc915 (d + 3), List.forall_mem_cons.mpr ⟨vc1026 d, List.forall_mem_cons.mpr ⟨vc918 (d + 3), fun _ h => absurd h List.not_mem_nil⟩⟩⟩) (cpyX (d + 3)) (by decide +kernel)
def Kc1029 : Con := ((265, [(2, 0, 0, [150])], []), [(150, 22, 22), (158, 0, 399)], [(none, [], [])])
set_option maxRecDepth 20000 in
theorem vc1029 {l : Launch} {X : Nat × (Nat → Int32)} {e : Int} (d : Nat) : Vc l X U0 Pt5 e (d + 1) Kc1029 :=
  ck (d := d) (Ks := []) (cy := 152) (cd := cdX7_note) (nl := 2) (fuel := 1000) (Hs := [((49, 1), ([(0, (2, 0, 0, [150]))], [], [(0, 0), (0, 15)], [(150, 22, (0, 1, 0, []))]), [(2, 150, 22)], (0, []), []), ((11, 1), ([(0, (2, 0, 0, [150])), (1, (0, 1, 0, []))], [], [(0, 0), (0, 375), (16, 16)], [(150, 22, (0, 2, 0, []))]), [(0, 1, 0), (2, 150, 22)], (1126, [(1, (-3))]), [])]) (by decide) rfl (fun na b => by rw [← ceX7_note]; exact tkX7_note) (fun _ h => absurd h List.not_mem_nil) (cpyX d) (by decide +kernel)
def Kc1030 : Con := ((192, [(2, 0, 0, [150]), (2, 0, 0, [157]), (0, 0, 5, [])], []), [], [(some (0, iLo, iHi, []), [], [])])
set_option maxRecDepth 20000 in
theorem vc1030 {l : Launch} {X : Nat × (Nat → Int32)} {e : Int} (d : Nat) : Vc l X U0 Pt5 e d Kc1030 :=
  ck (d := d) (Ks := []) (cy := 152) (cd := cdX7_letsGo) (nl := 6) (fuel := 1000) (Hs := []) (by decide) rfl (fun na b => by rw [← ceX7_letsGo]; exact tkX7_letsGo) (fun _ h => absurd h List.not_mem_nil) (cpyX d) (by decide +kernel)
def Kc1031 : Con := ((193, [(2, 0, 0, [150]), (2, 0, 0, [157]), (0, iLo, iHi, [])], []), [(157, 0, 17), (157, 23, 24)], [(none, [], [])])
set_option maxRecDepth 20000 in
theorem vc1031 {l : Launch} {X : Nat × (Nat → Int32)} {e : Int} (d : Nat) : Vc l X U0 Pt5 e (d + 1) Kc1031 :=
  ck (d := d) (Ks := [Kc1030]) (cy := 152) (cd := cdX7_dayOn) (nl := 5) (fuel := 1000) (Hs := [((15, 0), ([(0, (2, 0, 0, [150])), (1, (2, 0, 0, [157])), (2, (0, 1, 0, [])), (3, (0, 2, 0, []))], [], [(0, 0), (iLo, iHi), (0, 5)], []), [(0, 2, 0), (0, 3, 0)], (37, [(2, (-3))]), []), ((89, 0), ([(0, (2, 0, 0, [150])), (1, (2, 0, 0, [157])), (3, (0, 1, 0, []))], [], [(0, 0), (0, 6)], []), [(0, 3, 0)], (18, [(1, (-3))]), [])]) (by decide) rfl (fun na b => by rw [← ceX7_dayOn]; exact tkX7_dayOn) (List.forall_mem_cons.mpr ⟨vc1030 d, fun _ h => absurd h List.not_mem_nil⟩) (cpyX d) (by decide +kernel)
def Kc1032 : Con := ((266, [(2, 0, 0, [150])], []), [(150, 0, 0), (150, 11, 11), (150, 22, 22), (157, 0, 17), (157, 23, 24), (158, 0, 399), (160, 0, 4)], [(some (0, iLo, iHi, []), [], []), (some (0, (-1), (-1), []), [], [])])
set_option maxRecDepth 20000 in
theorem vc1032 {l : Launch} {X : Nat × (Nat → Int32)} {e : Int} (d : Nat) : Vc l X U0 Pt5 e (d + 2) Kc1032 :=
  ck (d := (d + 1)) (Ks := [Kc915, Kc1029, Kc946, Kc1031, Kc918]) (cy := 152) (cd := cdX7_day) (nl := 1) (fuel := 1000) (Hs := []) (by decide) rfl (fun na b => by rw [← ceX7_day]; exact tkX7_day) (List.forall_mem_cons.mpr ⟨vc915 (d + 1), List.forall_mem_cons.mpr ⟨vc1029 d, List.forall_mem_cons.mpr ⟨vc946 d, List.forall_mem_cons.mpr ⟨vc1031 d, List.forall_mem_cons.mpr ⟨vc918 (d + 1), fun _ h => absurd h List.not_mem_nil⟩⟩⟩⟩⟩) (cpyX (d + 1)) (by decide +kernel)
def Kc1033 : Con := ((267, [(2, 0, 0, [150]), (0, iLo, iHi, []), (0, iLo, iHi, [])], []), [(150, 0, 0), (150, 11, 11), (150, 22, 22), (157, 18, 22), (158, 0, 399)], [(some (0, (-1), (-1), []), [], []), (some (0, 0, 5, []), [(1, 0, 4), (2, 0, 5)], [])])
set_option maxRecDepth 20000 in
theorem vc1033 {l : Launch} {X : Nat × (Nat → Int32)} {e : Int} (d : Nat) : Vc l X U0 Pt5 e (d + 2) Kc1033 :=
  ck (d := (d + 1)) (Ks := [Kc915, Kc923, Kc918, Kc917, Kc920, Kc1029]) (cy := 152) (cd := cdX7_give) (nl := 4) (fuel := 1000) (Hs := []) (by decide) rfl (fun na b => by rw [← ceX7_give]; exact tkX7_give) (List.forall_mem_cons.mpr ⟨vc915 (d + 1), List.forall_mem_cons.mpr ⟨vc923 d, List.forall_mem_cons.mpr ⟨vc918 (d + 1), List.forall_mem_cons.mpr ⟨vc917 d, List.forall_mem_cons.mpr ⟨vc920 (d + 1), List.forall_mem_cons.mpr ⟨vc1029 d, fun _ h => absurd h List.not_mem_nil⟩⟩⟩⟩⟩⟩) (cpyX (d + 1)) (by decide +kernel)
def Kc1034 : Con := ((148, [(2, 0, 0, [150]), (0, iLo, iHi, [])], []), [(150, 11, 11)], [(some (0, 0, 0, []), [], [])])
set_option maxRecDepth 20000 in
theorem vc1034 {l : Launch} {X : Nat × (Nat → Int32)} {e : Int} (d : Nat) : Vc l X U0 Pt5 e d Kc1034 :=
  ck (d := d) (Ks := []) (cy := 152) (cd := cdX7_isNot) (nl := 2) (fuel := 1000) (Hs := []) (by decide) rfl (fun na b => by rw [← ceX7_isNot]; exact tkX7_isNot) (fun _ h => absurd h List.not_mem_nil) (cpyX d) (by decide +kernel)
def Kc1035 : Con := ((268, [(2, 0, 0, [150]), (0, iLo, iHi, [])], []), [(150, 0, 0), (150, 11, 11), (150, 22, 22), (157, 0, 11), (158, 0, 399)], [(some (0, 0, 0, []), [], []), (some (0, 1, 1, []), [(1, 0, 5)], [])])
set_option maxRecDepth 20000 in
theorem vc1035 {l : Launch} {X : Nat × (Nat → Int32)} {e : Int} (d : Nat) : Vc l X U0 Pt5 e (d + 2) Kc1035 :=
  ck (d := (d + 1)) (Ks := [Kc915, Kc917, Kc1034, Kc1029]) (cy := 152) (cd := cdX7_mend) (nl := 3) (fuel := 1000) (Hs := []) (by decide) rfl (fun na b => by rw [← ceX7_mend]; exact tkX7_mend) (List.forall_mem_cons.mpr ⟨vc915 (d + 1), List.forall_mem_cons.mpr ⟨vc917 d, List.forall_mem_cons.mpr ⟨vc1034 (d + 1), List.forall_mem_cons.mpr ⟨vc1029 d, fun _ h => absurd h List.not_mem_nil⟩⟩⟩⟩) (cpyX (d + 1)) (by decide +kernel)
def Kc1036 : Con := ((149, [(0, iLo, iHi, []), (0, 1, 1, []), (0, 99, 99, [])], []), [], [(some (0, 0, 0, []), [], []), (some (0, 1, 1, []), [(0, 1, 99)], [])])
set_option maxRecDepth 20000 in
theorem vc1036 {l : Launch} {X : Nat × (Nat → Int32)} {e : Int} (d : Nat) : Vc l X U0 Pt5 e d Kc1036 :=
  ck (d := d) (Ks := []) (cy := 152) (cd := cdX7_in) (nl := 3) (fuel := 1000) (Hs := []) (by decide) rfl (fun na b => by rw [← ceX7_in]; exact tkX7_in) (fun _ h => absurd h List.not_mem_nil) (cpyX d) (by decide +kernel)
def Kc1037 : Con := ((269, [(2, 0, 0, [150]), (0, iLo, iHi, []), (0, iLo, iHi, [])], []), [(150, 0, 0), (150, 11, 11), (150, 22, 22), (157, 6, 11), (158, 0, 399)], [(some (0, (-1), (-1), []), [], []), (some (0, iLo, iHi, []), [(1, 0, 5), (2, 1, 99)], [])])
set_option maxRecDepth 20000 in
theorem vc1037 {l : Launch} {X : Nat × (Nat → Int32)} {e : Int} (d : Nat) : Vc l X U0 Pt5 e (d + 2) Kc1037 :=
  ck (d := (d + 1)) (Ks := [Kc915, Kc917, Kc1036, Kc940, Kc918, Kc941, Kc943, Kc944, Kc1029]) (cy := 152) (cd := cdX7_vex) (nl := 4) (fuel := 1000) (Hs := []) (by decide) rfl (fun na b => by rw [← ceX7_vex]; exact tkX7_vex) (List.forall_mem_cons.mpr ⟨vc915 (d + 1), List.forall_mem_cons.mpr ⟨vc917 d, List.forall_mem_cons.mpr ⟨vc1036 (d + 1), List.forall_mem_cons.mpr ⟨vc940 (d + 1), List.forall_mem_cons.mpr ⟨vc918 (d + 1), List.forall_mem_cons.mpr ⟨vc941 (d + 1), List.forall_mem_cons.mpr ⟨vc943 (d + 1), List.forall_mem_cons.mpr ⟨vc944 (d + 1), List.forall_mem_cons.mpr ⟨vc1029 d, fun _ h => absurd h List.not_mem_nil⟩⟩⟩⟩⟩⟩⟩⟩⟩) (cpyX (d + 1)) (by decide +kernel)
def Kc1038 : Con := ((270, [(2, 0, 0, [150])], []), [(150, 0, 0), (150, 11, 11), (150, 22, 22), (157, 0, 24)], [(some (0, 0, 0, []), [], []), (some (0, 1, 1, []), [], [])])
set_option maxRecDepth 20000 in
theorem vc1038 {l : Launch} {X : Nat × (Nat → Int32)} {e : Int} (d : Nat) : Vc l X U0 Pt5 e (d + 1) Kc1038 :=
  ck (d := d) (Ks := [Kc915, Kc1034]) (cy := 152) (cd := cdX7_undo) (nl := 1) (fuel := 1000) (Hs := [((28, 1), ([(0, (2, 0, 0, [150]))], [], [(0, 0), (0, 15)], [(150, 22, (0, 1, 0, []))]), [(2, 150, 22)], (0, []), [])]) (by decide) rfl (fun na b => by rw [← ceX7_undo]; exact tkX7_undo) (List.forall_mem_cons.mpr ⟨vc915 d, List.forall_mem_cons.mpr ⟨vc1034 d, fun _ h => absurd h List.not_mem_nil⟩⟩) (cpyX d) (by decide +kernel)
def Kc1039 : Con := ((271, [(2, 0, 0, [150])], []), [(150, 0, 0), (150, 11, 11), (150, 23, 23), (159, 0, 74)], [(some (0, (-1), (-1), []), [], []), (some (0, 0, 2, []), [], [])])
set_option maxRecDepth 20000 in
theorem vc1039 {l : Launch} {X : Nat × (Nat → Int32)} {e : Int} (d : Nat) : Vc l X U0 Pt5 e (d + 1) Kc1039 :=
  ck (d := d) (Ks := [Kc915, Kc918]) (cy := 152) (cd := cdX7_image) (nl := 1) (fuel := 1000) (Hs := [((31, 1), ([(0, (2, 0, 0, [150]))], [], [(0, 0), (0, 2)], [(150, 23, (0, 1, 0, []))]), [(2, 150, 23)], (0, []), [])]) (by decide) rfl (fun na b => by rw [← ceX7_image]; exact tkX7_image) (List.forall_mem_cons.mpr ⟨vc915 d, List.forall_mem_cons.mpr ⟨vc918 d, fun _ h => absurd h List.not_mem_nil⟩⟩) (cpyX d) (by decide +kernel)
def Kc1040 : Con := ((149, [(0, iLo, iHi, []), (0, 0, 0, []), (0, (-1), 2, [])], []), [], [(some (0, 0, 0, []), [], []), (some (0, 1, 1, []), [(0, 0, 2), (2, 0, 2)], [])])
set_option maxRecDepth 20000 in
theorem vc1040 {l : Launch} {X : Nat × (Nat → Int32)} {e : Int} (d : Nat) : Vc l X U0 Pt5 e d Kc1040 :=
  ck (d := d) (Ks := []) (cy := 152) (cd := cdX7_in) (nl := 3) (fuel := 1000) (Hs := []) (by decide) rfl (fun na b => by rw [← ceX7_in]; exact tkX7_in) (fun _ h => absurd h List.not_mem_nil) (cpyX d) (by decide +kernel)
def Kc1041 : Con := ((272, [(2, 0, 0, [150]), (0, iLo, iHi, [])], []), [(150, 0, 0), (150, 11, 11), (150, 22, 22), (157, 0, 24)], [(some (0, 0, 0, []), [], []), (some (0, 1, 1, []), [], [])])
set_option maxRecDepth 20000 in
theorem vc1041 {l : Launch} {X : Nat × (Nat → Int32)} {e : Int} (d : Nat) : Vc l X U0 Pt5 e (d + 1) Kc1041 :=
  ck (d := d) (Ks := [Kc915, Kc1040, Kc1034]) (cy := 152) (cd := cdX7_back) (nl := 2) (fuel := 1000) (Hs := [((24, 1), ([(0, (2, 0, 0, [150])), (1, (0, 1, 0, []))], [], [(0, 0), (0, 2)], []), [(0, 1, 0)], (0, []), [])]) (by decide) rfl (fun na b => by rw [← ceX7_back]; exact tkX7_back) (List.forall_mem_cons.mpr ⟨vc915 d, List.forall_mem_cons.mpr ⟨vc1040 d, List.forall_mem_cons.mpr ⟨vc1034 d, fun _ h => absurd h List.not_mem_nil⟩⟩⟩) (cpyX d) (by decide +kernel)
def Kc1042 : Con := ((273, [(2, 0, 0, [150]), (0, iLo, iHi, [])], []), [(150, 0, 0)], [(some (0, 0, 5, []), [], [])])
set_option maxRecDepth 20000 in
theorem vc1042 {l : Launch} {X : Nat × (Nat → Int32)} {e : Int} (d : Nat) : Vc l X U0 Pt5 e (d + 1) Kc1042 :=
  ck (d := d) (Ks := [Kc920]) (cy := 152) (cd := cdX7_led) (nl := 4) (fuel := 1000) (Hs := [((4, 0), ([(0, (2, 0, 0, [150])), (1, (0, 1, 0, [])), (2, (0, 2, 0, [])), (3, (0, 3, 0, []))], [], [(0, 0), (iLo, iHi), (iLo, iHi), (0, 6)], []), [(0, 1, 0), (0, 2, 0), (0, 3, 0)], (12, [(3, (-2))]), [])]) (by decide) rfl (fun na b => by rw [← ceX7_led]; exact tkX7_led) (List.forall_mem_cons.mpr ⟨vc920 d, fun _ h => absurd h List.not_mem_nil⟩) (cpyX d) (by decide +kernel)
def Kc1043 : Con := ((149, [(0, iLo, iHi, []), (0, 0, 0, []), (0, 8, 8, [])], []), [], [(some (0, 0, 0, []), [], []), (some (0, 1, 1, []), [(0, 0, 8)], [])])
set_option maxRecDepth 20000 in
theorem vc1043 {l : Launch} {X : Nat × (Nat → Int32)} {e : Int} (d : Nat) : Vc l X U0 Pt5 e d Kc1043 :=
  ck (d := d) (Ks := []) (cy := 152) (cd := cdX7_in) (nl := 3) (fuel := 1000) (Hs := []) (by decide) rfl (fun na b => by rw [← ceX7_in]; exact tkX7_in) (fun _ h => absurd h List.not_mem_nil) (cpyX d) (by decide +kernel)
def Kc1044 : Con := ((274, [(2, 0, 0, [150]), (0, iLo, iHi, [])], []), [(150, 0, 0)], [(some (0, (-1), (-1), []), [], []), (some (0, iLo, iHi, []), [(1, 0, 12)], [])])
set_option maxRecDepth 20000 in
theorem vc1044 {l : Launch} {X : Nat × (Nat → Int32)} {e : Int} (d : Nat) : Vc l X U0 Pt5 e (d + 1) Kc1044 :=
  ck (d := d) (Ks := [Kc1043]) (cy := 152) (cd := cdX7_size) (nl := 2) (fuel := 1000) (Hs := []) (by decide) rfl (fun na b => by rw [← ceX7_size]; exact tkX7_size) (List.forall_mem_cons.mpr ⟨vc1043 d, fun _ h => absurd h List.not_mem_nil⟩) (cpyX d) (by decide +kernel)
def Kc1045 : Con := ((275, [(2, 0, 0, [150])], []), [(150, 0, 0)], [(some (0, iLo, iHi, []), [], [])])
set_option maxRecDepth 20000 in
theorem vc1045 {l : Launch} {X : Nat × (Nat → Int32)} {e : Int} (d : Nat) : Vc l X U0 Pt5 e d Kc1045 :=
  ck (d := d) (Ks := []) (cy := 152) (cd := cdX7_trouble) (nl := 1) (fuel := 1000) (Hs := []) (by decide) rfl (fun na b => by rw [← ceX7_trouble]; exact tkX7_trouble) (fun _ h => absurd h List.not_mem_nil) (cpyX d) (by decide +kernel)
def Kc1046 : Con := ((183, [(2, 0, 0, [150])], []), [(150, 0, 0)], [(some (0, iLo, iHi, []), [], [])])
set_option maxRecDepth 20000 in
theorem vc1046 {l : Launch} {X : Nat × (Nat → Int32)} {e : Int} (d : Nat) : Vc l X U0 Pt5 e d Kc1046 :=
  ck (d := d) (Ks := []) (cy := 152) (cd := cdX7_fault) (nl := 1) (fuel := 1000) (Hs := []) (by decide) rfl (fun na b => by rw [← ceX7_fault]; exact tkX7_fault) (fun _ h => absurd h List.not_mem_nil) (cpyX d) (by decide +kernel)
def Kc1047 : Con := ((184, [(2, 0, 0, [150])], []), [(150, 0, 0)], [(some (0, (-1), (-1), []), [], []), (some (0, iLo, iHi, []), [], [])])
set_option maxRecDepth 20000 in
theorem vc1047 {l : Launch} {X : Nat × (Nat → Int32)} {e : Int} (d : Nat) : Vc l X U0 Pt5 e d Kc1047 :=
  ck (d := d) (Ks := []) (cy := 152) (cd := cdX7_where) (nl := 1) (fuel := 1000) (Hs := []) (by decide) rfl (fun na b => by rw [← ceX7_where]; exact tkX7_where) (fun _ h => absurd h List.not_mem_nil) (cpyX d) (by decide +kernel)
