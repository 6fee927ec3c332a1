section
noncomputable def Kc431 : Con := ((146, [(2, 0, 0, [150])], []), [(150, 0, 0), (150, 11, 11)], [(none, [], [])])
set_option maxRecDepth 20000 in
theorem vc431 {l : Launch} {X : Nat × (Nat → Int32)} {e : Int} (d : Nat) : Vc l X U0 Pt6 e d Kc431 :=
  ckf (d := d) (Ks := []) (cy := 152) (cd := cdX7_good) (nl := 1) (fuel := 1000) (Hs := []) (by decide +kernel) (by decide +kernel) (fun na b => by rw [← ceX7_good]; exact tkX7_good) (fun _ h => absurd h List.not_mem_nil) (cpyX d) (by decide +kernel)
noncomputable def Kc432 : Con := ((185, [(2, 0, 0, [150]), (0, iLo, iHi, [])], []), [], [(some (0, 0, 0, []), [], [])])
set_option maxRecDepth 20000 in
theorem vc432 {l : Launch} {X : Nat × (Nat → Int32)} {e : Int} (d : Nat) : Vc l X U0 Pt6 e (d + 1) Kc432 :=
  ckf (d := d) (Ks := []) (cy := 152) (cd := cdX7_isFace) (nl := 2) (fuel := 1000) (Hs := []) (by decide +kernel) (by decide +kernel) (fun na b => by rw [← ceX7_isFace]; exact tkX7_isFace) (fun _ h => absurd h List.not_mem_nil) (cpyX d) (by decide +kernel)
noncomputable def Kc433 : Con := ((147, [(2, 0, 0, [150]), (0, iLo, iHi, [])], []), [(150, 11, 11)], [(some (0, (-1), (-1), []), [], [])])
set_option maxRecDepth 20000 in
theorem vc433 {l : Launch} {X : Nat × (Nat → Int32)} {e : Int} (d : Nat) : Vc l X U0 Pt6 e d Kc433 :=
  ckf (d := d) (Ks := []) (cy := 152) (cd := cdX7_no) (nl := 2) (fuel := 1000) (Hs := []) (by decide +kernel) (by decide +kernel) (fun na b => by rw [← ceX7_no]; exact tkX7_no) (fun _ h => absurd h List.not_mem_nil) (cpyX d) (by decide +kernel)
noncomputable def Kc434 : Con := ((198, [(2, 0, 0, [150]), (0, iLo, iHi, []), (0, iLo, iHi, [])], []), [(150, 0, 0), (150, 11, 11)], [(some (0, (-1), (-1), []), [], [])])
set_option maxRecDepth 20000 in
theorem vc434 {l : Launch} {X : Nat × (Nat → Int32)} {e : Int} (d : Nat) : Vc l X U0 Pt6 e (d + 2) Kc434 :=
  ckf (d := (d + 1)) (Ks := [Kc431, Kc432, Kc433]) (cy := 152) (cd := cdX7_face) (nl := 3) (fuel := 1000) (Hs := []) (by decide +kernel) (by decide +kernel) (fun na b => by rw [← ceX7_face]; exact tkX7_face) (List.forall_mem_cons.mpr ⟨vc431 (d + 1), List.forall_mem_cons.mpr ⟨vc432 d, List.forall_mem_cons.mpr ⟨vc433 (d + 1), fun _ h => absurd h List.not_mem_nil⟩⟩⟩) (cpyX (d + 1)) (by decide +kernel)
noncomputable def Kc435 : Con := ((186, [(2, 0, 0, [150]), (0, iLo, iHi, [])], []), [], [(some (0, 0, 0, []), [], [])])
set_option maxRecDepth 20000 in
theorem vc435 {l : Launch} {X : Nat × (Nat → Int32)} {e : Int} (d : Nat) : Vc l X U0 Pt6 e (d + 1) Kc435 :=
  ckf (d := d) (Ks := []) (cy := 152) (cd := cdX7_isCanon) (nl := 2) (fuel := 1000) (Hs := []) (by decide +kernel) (by decide +kernel) (fun na b => by rw [← ceX7_isCanon]; exact tkX7_isCanon) (fun _ h => absurd h List.not_mem_nil) (cpyX d) (by decide +kernel)
noncomputable def Kc436 : Con := ((199, [(2, 0, 0, [150]), (0, iLo, iHi, []), (0, iLo, iHi, [])], []), [(150, 0, 0), (150, 11, 11)], [(some (0, (-1), (-1), []), [], [])])
set_option maxRecDepth 20000 in
theorem vc436 {l : Launch} {X : Nat × (Nat → Int32)} {e : Int} (d : Nat) : Vc l X U0 Pt6 e (d + 2) Kc436 :=
  ckf (d := (d + 1)) (Ks := [Kc431, Kc435, Kc433]) (cy := 152) (cd := cdX7_canon) (nl := 3) (fuel := 1000) (Hs := []) (by decide +kernel) (by decide +kernel) (fun na b => by rw [← ceX7_canon]; exact tkX7_canon) (List.forall_mem_cons.mpr ⟨vc431 (d + 1), List.forall_mem_cons.mpr ⟨vc435 d, List.forall_mem_cons.mpr ⟨vc433 (d + 1), fun _ h => absurd h List.not_mem_nil⟩⟩⟩) (cpyX (d + 1)) (by decide +kernel)
noncomputable def Kc437 : Con := ((188, [(2, 0, 0, [150]), (0, iLo, iHi, [])], []), [], [(some (0, 0, 0, []), [], [])])
set_option maxRecDepth 20000 in
theorem vc437 {l : Launch} {X : Nat × (Nat → Int32)} {e : Int} (d : Nat) : Vc l X U0 Pt6 e (d + 1) Kc437 :=
  ckf (d := d) (Ks := []) (cy := 152) (cd := cdX7_isCell) (nl := 2) (fuel := 1000) (Hs := []) (by decide +kernel) (by decide +kernel) (fun na b => by rw [← ceX7_isCell]; exact tkX7_isCell) (fun _ h => absurd h List.not_mem_nil) (cpyX d) (by decide +kernel)
noncomputable def Kc438 : Con := ((204, [(2, 0, 0, [150]), (0, iLo, iHi, []), (0, iLo, iHi, [])], []), [(150, 0, 0), (150, 11, 11), (150, 26, 26)], [(some (0, (-1), (-1), []), [], [])])
set_option maxRecDepth 20000 in
theorem vc438 {l : Launch} {X : Nat × (Nat → Int32)} {e : Int} (d : Nat) : Vc l X U0 Pt6 e (d + 2) Kc438 :=
  ckf (d := (d + 1)) (Ks := [Kc431, Kc437, Kc433]) (cy := 152) (cd := cdX7_cell) (nl := 3) (fuel := 1000) (Hs := []) (by decide +kernel) (by decide +kernel) (fun na b => by rw [← ceX7_cell]; exact tkX7_cell) (List.forall_mem_cons.mpr ⟨vc431 (d + 1), List.forall_mem_cons.mpr ⟨vc437 d, List.forall_mem_cons.mpr ⟨vc433 (d + 1), fun _ h => absurd h List.not_mem_nil⟩⟩⟩) (cpyX (d + 1)) (by decide +kernel)
noncomputable def Kc439 : Con := ((205, [(2, 0, 0, [150])], []), [(150, 0, 0), (150, 11, 11)], [(some (0, (-1), (-1), []), [], [])])
set_option maxRecDepth 20000 in
theorem vc439 {l : Launch} {X : Nat × (Nat → Int32)} {e : Int} (d : Nat) : Vc l X U0 Pt6 e (d + 1) Kc439 :=
  ckf (d := d) (Ks := [Kc431, Kc433]) (cy := 152) (cd := cdX7_burden) (nl := 3) (fuel := 1000) (Hs := []) (by decide +kernel) (by decide +kernel) (fun na b => by rw [← ceX7_burden]; exact tkX7_burden) (List.forall_mem_cons.mpr ⟨vc431 d, List.forall_mem_cons.mpr ⟨vc433 d, fun _ h => absurd h List.not_mem_nil⟩⟩) (cpyX d) (by decide +kernel)
noncomputable def Kc440 : Con := ((149, [(0, iLo, iHi, []), (0, 0, 0, []), (0, 60, 60, [])], []), [], [(some (0, 0, 0, []), [], []), (some (0, 1, 1, []), [(0, 0, 60)], [])])
set_option maxRecDepth 20000 in
theorem vc440 {l : Launch} {X : Nat × (Nat → Int32)} {e : Int} (d : Nat) : Vc l X U0 Pt6 e d Kc440 :=
  ckf (d := d) (Ks := []) (cy := 152) (cd := cdX7_in) (nl := 3) (fuel := 1000) (Hs := []) (by decide +kernel) (by decide +kernel) (fun na b => by rw [← ceX7_in]; exact tkX7_in) (fun _ h => absurd h List.not_mem_nil) (cpyX d) (by decide +kernel)
noncomputable def Kc441 : Con := ((190, [(2, 0, 0, [150]), (0, 0, 0, []), (0, 0, 0, [])], []), [], [(some (0, 1, 1, []), [], [])])
set_option maxRecDepth 20000 in
theorem vc441 {l : Launch} {X : Nat × (Nat → Int32)} {e : Int} (d : Nat) : Vc l X U0 Pt6 e d Kc441 :=
  ckf (d := d) (Ks := []) (cy := 152) (cd := cdX7_why) (nl := 3) (fuel := 1000) (Hs := []) (by decide +kernel) (by decide +kernel) (fun na b => by rw [← ceX7_why]; exact tkX7_why) (fun _ h => absurd h List.not_mem_nil) (cpyX d) (by decide +kernel)
noncomputable def Kc442 : Con := ((190, [(2, 0, 0, [150]), (0, 0, 0, []), (0, 1, 1, [])], []), [], [(some (0, 1, 1, []), [], [])])
set_option maxRecDepth 20000 in
theorem vc442 {l : Launch} {X : Nat × (Nat → Int32)} {e : Int} (d : Nat) : Vc l X U0 Pt6 e d Kc442 :=
  ckf (d := d) (Ks := []) (cy := 152) (cd := cdX7_why) (nl := 3) (fuel := 1000) (Hs := []) (by decide +kernel) (by decide +kernel) (fun na b => by rw [← ceX7_why]; exact tkX7_why) (fun _ h => absurd h List.not_mem_nil) (cpyX d) (by decide +kernel)
noncomputable def Kc443 : Con := ((206, [(2, 0, 0, [150]), (0, 0, 0, []), (0, 0, 0, []), (0, iLo, iHi, [])], []), [], [(some (0, 1, 1, []), [], [])])
set_option maxRecDepth 20000 in
theorem vc443 {l : Launch} {X : Nat × (Nat → Int32)} {e : Int} (d : Nat) : Vc l X U0 Pt6 e (d + 1) Kc443 :=
  ckf (d := d) (Ks := [Kc440, Kc441, Kc442]) (cy := 152) (cd := cdX7_aheadWhy) (nl := 4) (fuel := 1000) (Hs := []) (by decide +kernel) (by decide +kernel) (fun na b => by rw [← ceX7_aheadWhy]; exact tkX7_aheadWhy) (List.forall_mem_cons.mpr ⟨vc440 d, List.forall_mem_cons.mpr ⟨vc441 d, List.forall_mem_cons.mpr ⟨vc442 d, fun _ h => absurd h List.not_mem_nil⟩⟩⟩) (cpyX d) (by decide +kernel)
noncomputable def Kc444 : Con := ((207, [(2, 0, 0, [150]), (0, iLo, iHi, []), (0, iLo, iHi, [])], []), [(150, 0, 0), (150, 11, 11)], [(some (0, (-1), (-1), []), [], [])])
set_option maxRecDepth 20000 in
theorem vc444 {l : Launch} {X : Nat × (Nat → Int32)} {e : Int} (d : Nat) : Vc l X U0 Pt6 e (d + 2) Kc444 :=
  ckf (d := (d + 1)) (Ks := [Kc431, Kc432, Kc443, Kc433]) (cy := 152) (cd := cdX7_bears) (nl := 4) (fuel := 1000) (Hs := []) (by decide +kernel) (by decide +kernel) (fun na b => by rw [← ceX7_bears]; exact tkX7_bears) (List.forall_mem_cons.mpr ⟨vc431 (d + 1), List.forall_mem_cons.mpr ⟨vc432 d, List.forall_mem_cons.mpr ⟨vc443 d, List.forall_mem_cons.mpr ⟨vc433 (d + 1), fun _ h => absurd h List.not_mem_nil⟩⟩⟩⟩) (cpyX (d + 1)) (by decide +kernel)
noncomputable def Kc445 : Con := ((208, [(2, 0, 0, [150]), (0, iLo, iHi, []), (0, iLo, iHi, [])], []), [(150, 0, 0), (150, 11, 11)], [(some (0, (-1), (-1), []), [], [])])
set_option maxRecDepth 20000 in
theorem vc445 {l : Launch} {X : Nat × (Nat → Int32)} {e : Int} (d : Nat) : Vc l X U0 Pt6 e (d + 2) Kc445 :=
  ckf (d := (d + 1)) (Ks := [Kc431, Kc432, Kc443, Kc433]) (cy := 152) (cd := cdX7_holds) (nl := 4) (fuel := 1000) (Hs := []) (by decide +kernel) (by decide +kernel) (fun na b => by rw [← ceX7_holds]; exact tkX7_holds) (List.forall_mem_cons.mpr ⟨vc431 (d + 1), List.forall_mem_cons.mpr ⟨vc432 d, List.forall_mem_cons.mpr ⟨vc443 d, List.forall_mem_cons.mpr ⟨vc433 (d + 1), fun _ h => absurd h List.not_mem_nil⟩⟩⟩⟩) (cpyX (d + 1)) (by decide +kernel)
noncomputable def Kc446 : Con := ((209, [(2, 0, 0, [150]), (0, iLo, iHi, []), (0, iLo, iHi, [])], []), [(150, 0, 0), (150, 11, 11)], [(some (0, (-1), (-1), []), [], [])])
set_option maxRecDepth 20000 in
theorem vc446 {l : Launch} {X : Nat × (Nat → Int32)} {e : Int} (d : Nat) : Vc l X U0 Pt6 e (d + 2) Kc446 :=
  ckf (d := (d + 1)) (Ks := [Kc431, Kc432, Kc443, Kc433]) (cy := 152) (cd := cdX7_drops) (nl := 4) (fuel := 1000) (Hs := []) (by decide +kernel) (by decide +kernel) (fun na b => by rw [← ceX7_drops]; exact tkX7_drops) (List.forall_mem_cons.mpr ⟨vc431 (d + 1), List.forall_mem_cons.mpr ⟨vc432 d, List.forall_mem_cons.mpr ⟨vc443 d, List.forall_mem_cons.mpr ⟨vc433 (d + 1), fun _ h => absurd h List.not_mem_nil⟩⟩⟩⟩) (cpyX (d + 1)) (by decide +kernel)
noncomputable def Kc447 : Con := ((210, [(2, 0, 0, [150]), (0, iLo, iHi, [])], []), [(150, 0, 0), (150, 11, 11)], [(some (0, (-1), (-1), []), [], [])])
set_option maxRecDepth 20000 in
theorem vc447 {l : Launch} {X : Nat × (Nat → Int32)} {e : Int} (d : Nat) : Vc l X U0 Pt6 e (d + 2) Kc447 :=
  ckf (d := (d + 1)) (Ks := [Kc431, Kc432, Kc433]) (cy := 152) (cd := cdX7_dropsIn) (nl := 3) (fuel := 1000) (Hs := []) (by decide +kernel) (by decide +kernel) (fun na b => by rw [← ceX7_dropsIn]; exact tkX7_dropsIn) (List.forall_mem_cons.mpr ⟨vc431 (d + 1), List.forall_mem_cons.mpr ⟨vc432 d, List.forall_mem_cons.mpr ⟨vc433 (d + 1), fun _ h => absurd h List.not_mem_nil⟩⟩⟩) (cpyX (d + 1)) (by decide +kernel)
noncomputable def Kc448 : Con := ((211, [(2, 0, 0, [150]), (0, iLo, iHi, [])], []), [(150, 0, 0), (150, 11, 11)], [(some (0, (-1), (-1), []), [], [])])
set_option maxRecDepth 20000 in
theorem vc448 {l : Launch} {X : Nat × (Nat → Int32)} {e : Int} (d : Nat) : Vc l X U0 Pt6 e (d + 2) Kc448 :=
  ckf (d := (d + 1)) (Ks := [Kc431, Kc432, Kc433]) (cy := 152) (cd := cdX7_fallsIn) (nl := 3) (fuel := 1000) (Hs := []) (by decide +kernel) (by decide +kernel) (fun na b => by rw [← ceX7_fallsIn]; exact tkX7_fallsIn) (List.forall_mem_cons.mpr ⟨vc431 (d + 1), List.forall_mem_cons.mpr ⟨vc432 d, List.forall_mem_cons.mpr ⟨vc433 (d + 1), fun _ h => absurd h List.not_mem_nil⟩⟩⟩) (cpyX (d + 1)) (by decide +kernel)
noncomputable def Kc449 : Con := ((149, [(0, iLo, iHi, []), (0, 1, 1, []), (0, 60, 60, [])], []), [], [(some (0, 0, 0, []), [], []), (some (0, 1, 1, []), [(0, 1, 60)], [])])
set_option maxRecDepth 20000 in
theorem vc449 {l : Launch} {X : Nat × (Nat → Int32)} {e : Int} (d : Nat) : Vc l X U0 Pt6 e d Kc449 :=
  ckf (d := d) (Ks := []) (cy := 152) (cd := cdX7_in) (nl := 3) (fuel := 1000) (Hs := []) (by decide +kernel) (by decide +kernel) (fun na b => by rw [← ceX7_in]; exact tkX7_in) (fun _ h => absurd h List.not_mem_nil) (cpyX d) (by decide +kernel)
noncomputable def Kc450 : Con := ((206, [(2, 0, 0, [150]), (0, 0, 0, []), (0, 1, 1, []), (0, iLo, iHi, [])], []), [], [(some (0, 1, 1, []), [], [])])
set_option maxRecDepth 20000 in
theorem vc450 {l : Launch} {X : Nat × (Nat → Int32)} {e : Int} (d : Nat) : Vc l X U0 Pt6 e (d + 1) Kc450 :=
  ckf (d := d) (Ks := [Kc449, Kc441, Kc442]) (cy := 152) (cd := cdX7_aheadWhy) (nl := 4) (fuel := 1000) (Hs := []) (by decide +kernel) (by decide +kernel) (fun na b => by rw [← ceX7_aheadWhy]; exact tkX7_aheadWhy) (List.forall_mem_cons.mpr ⟨vc449 d, List.forall_mem_cons.mpr ⟨vc441 d, List.forall_mem_cons.mpr ⟨vc442 d, fun _ h => absurd h List.not_mem_nil⟩⟩⟩) (cpyX d) (by decide +kernel)
noncomputable def Kc451 : Con := ((212, [(2, 0, 0, [150]), (0, iLo, iHi, [])], []), [(150, 0, 0), (150, 11, 11)], [(some (0, (-1), (-1), []), [], [])])
set_option maxRecDepth 20000 in
theorem vc451 {l : Launch} {X : Nat × (Nat → Int32)} {e : Int} (d : Nat) : Vc l X U0 Pt6 e (d + 2) Kc451 :=
  ckf (d := (d + 1)) (Ks := [Kc431, Kc450, Kc433]) (cy := 152) (cd := cdX7_wet) (nl := 3) (fuel := 1000) (Hs := []) (by decide +kernel) (by decide +kernel) (fun na b => by rw [← ceX7_wet]; exact tkX7_wet) (List.forall_mem_cons.mpr ⟨vc431 (d + 1), List.forall_mem_cons.mpr ⟨vc450 d, List.forall_mem_cons.mpr ⟨vc433 (d + 1), fun _ h => absurd h List.not_mem_nil⟩⟩⟩) (cpyX (d + 1)) (by decide +kernel)
noncomputable def Kc452 : Con := ((214, [(2, 0, 0, [150]), (0, iLo, iHi, []), (0, iLo, iHi, [])], []), [(150, 0, 0), (150, 11, 11)], [(some (0, (-1), (-1), []), [], [])])
set_option maxRecDepth 20000 in
theorem vc452 {l : Launch} {X : Nat × (Nat → Int32)} {e : Int} (d : Nat) : Vc l X U0 Pt6 e (d + 2) Kc452 :=
  ckf (d := (d + 1)) (Ks := [Kc431, Kc437, Kc443, Kc433]) (cy := 152) (cd := cdX7_wetDays) (nl := 4) (fuel := 1000) (Hs := []) (by decide +kernel) (by decide +kernel) (fun na b => by rw [← ceX7_wetDays]; exact tkX7_wetDays) (List.forall_mem_cons.mpr ⟨vc431 (d + 1), List.forall_mem_cons.mpr ⟨vc437 d, List.forall_mem_cons.mpr ⟨vc443 d, List.forall_mem_cons.mpr ⟨vc433 (d + 1), fun _ h => absurd h List.not_mem_nil⟩⟩⟩⟩) (cpyX (d + 1)) (by decide +kernel)
noncomputable def Kc453 : Con := ((215, [(2, 0, 0, [150])], []), [(150, 0, 0), (150, 11, 11)], [(some (0, (-1), (-1), []), [], [])])
set_option maxRecDepth 20000 in
theorem vc453 {l : Launch} {X : Nat × (Nat → Int32)} {e : Int} (d : Nat) : Vc l X U0 Pt6 e (d + 1) Kc453 :=
  ckf (d := d) (Ks := [Kc431, Kc433]) (cy := 152) (cd := cdX7_wettest) (nl := 5) (fuel := 1000) (Hs := []) (by decide +kernel) (by decide +kernel) (fun na b => by rw [← ceX7_wettest]; exact tkX7_wettest) (List.forall_mem_cons.mpr ⟨vc431 d, List.forall_mem_cons.mpr ⟨vc433 d, fun _ h => absurd h List.not_mem_nil⟩⟩) (cpyX d) (by decide +kernel)
noncomputable def Kc454 : Con := ((216, [(2, 0, 0, [150])], []), [(150, 0, 0), (150, 11, 11)], [(some (0, (-1), (-1), []), [], [])])
set_option maxRecDepth 20000 in
theorem vc454 {l : Launch} {X : Nat × (Nat → Int32)} {e : Int} (d : Nat) : Vc l X U0 Pt6 e (d + 1) Kc454 :=
  ckf (d := d) (Ks := [Kc431, Kc433]) (cy := 152) (cd := cdX7_sunny) (nl := 2) (fuel := 1000) (Hs := []) (by decide +kernel) (by decide +kernel) (fun na b => by rw [← ceX7_sunny]; exact tkX7_sunny) (List.forall_mem_cons.mpr ⟨vc431 d, List.forall_mem_cons.mpr ⟨vc433 d, fun _ h => absurd h List.not_mem_nil⟩⟩) (cpyX d) (by decide +kernel)
noncomputable def Kc455 : Con := ((217, [(2, 0, 0, [150])], []), [(150, 0, 0), (150, 11, 11)], [(some (0, (-1), (-1), []), [], [])])
set_option maxRecDepth 20000 in
theorem vc455 {l : Launch} {X : Nat × (Nat → Int32)} {e : Int} (d : Nat) : Vc l X U0 Pt6 e (d + 1) Kc455 :=
  ckf (d := d) (Ks := [Kc431, Kc433]) (cy := 152) (cd := cdX7_heaviest) (nl := 4) (fuel := 1000) (Hs := []) (by decide +kernel) (by decide +kernel) (fun na b => by rw [← ceX7_heaviest]; exact tkX7_heaviest) (List.forall_mem_cons.mpr ⟨vc431 d, List.forall_mem_cons.mpr ⟨vc433 d, fun _ h => absurd h List.not_mem_nil⟩⟩) (cpyX d) (by decide +kernel)
noncomputable def Kc456 : Con := ((218, [(2, 0, 0, [150]), (0, iLo, iHi, [])], []), [(150, 0, 0), (150, 11, 11)], [(some (0, (-1), (-1), []), [], [])])
set_option maxRecDepth 20000 in
theorem vc456 {l : Launch} {X : Nat × (Nat → Int32)} {e : Int} (d : Nat) : Vc l X U0 Pt6 e (d + 2) Kc456 :=
  ckf (d := (d + 1)) (Ks := [Kc431, Kc443, Kc433]) (cy := 152) (cd := cdX7_fallen) (nl := 3) (fuel := 1000) (Hs := []) (by decide +kernel) (by decide +kernel) (fun na b => by rw [← ceX7_fallen]; exact tkX7_fallen) (List.forall_mem_cons.mpr ⟨vc431 (d + 1), List.forall_mem_cons.mpr ⟨vc443 d, List.forall_mem_cons.mpr ⟨vc433 (d + 1), fun _ h => absurd h List.not_mem_nil⟩⟩⟩) (cpyX (d + 1)) (by decide +kernel)
noncomputable def Kc457 : Con := ((149, [(0, iLo, iHi, []), (0, 1, 1, []), (0, 30, 30, [])], []), [], [(some (0, 0, 0, []), [], []), (some (0, 1, 1, []), [(0, 1, 30)], [])])
set_option maxRecDepth 20000 in
theorem vc457 {l : Launch} {X : Nat × (Nat → Int32)} {e : Int} (d : Nat) : Vc l X U0 Pt6 e d Kc457 :=
  ckf (d := d) (Ks := []) (cy := 152) (cd := cdX7_in) (nl := 3) (fuel := 1000) (Hs := []) (by decide +kernel) (by decide +kernel) (fun na b => by rw [← ceX7_in]; exact tkX7_in) (fun _ h => absurd h List.not_mem_nil) (cpyX d) (by decide +kernel)
noncomputable def Kc458 : Con := ((222, [(2, 0, 0, [150]), (0, 0, 0, []), (0, iLo, iHi, [])], []), [], [(some (0, 1, 1, []), [], [])])
set_option maxRecDepth 20000 in
theorem vc458 {l : Launch} {X : Nat × (Nat → Int32)} {e : Int} (d : Nat) : Vc l X U0 Pt6 e (d + 1) Kc458 :=
  ckf (d := d) (Ks := [Kc457, Kc441, Kc442]) (cy := 152) (cd := cdX7_planWhy) (nl := 3) (fuel := 1000) (Hs := []) (by decide +kernel) (by decide +kernel) (fun na b => by rw [← ceX7_planWhy]; exact tkX7_planWhy) (List.forall_mem_cons.mpr ⟨vc457 d, List.forall_mem_cons.mpr ⟨vc441 d, List.forall_mem_cons.mpr ⟨vc442 d, fun _ h => absurd h List.not_mem_nil⟩⟩⟩) (cpyX d) (by decide +kernel)
noncomputable def Kc459 : Con := ((223, [(2, 0, 0, [150]), (0, iLo, iHi, []), (0, iLo, iHi, []), (0, iLo, iHi, [])], []), [(150, 0, 0), (150, 11, 11)], [(some (0, (-1), (-1), []), [], [])])
set_option maxRecDepth 20000 in
theorem vc459 {l : Launch} {X : Nat × (Nat → Int32)} {e : Int} (d : Nat) : Vc l X U0 Pt6 e (d + 2) Kc459 :=
  ckf (d := (d + 1)) (Ks := [Kc431, Kc435, Kc458, Kc433]) (cy := 152) (cd := cdX7_dropsIf) (nl := 5) (fuel := 1000) (Hs := []) (by decide +kernel) (by decide +kernel) (fun na b => by rw [← ceX7_dropsIf]; exact tkX7_dropsIf) (List.forall_mem_cons.mpr ⟨vc431 (d + 1), List.forall_mem_cons.mpr ⟨vc435 d, List.forall_mem_cons.mpr ⟨vc458 d, List.forall_mem_cons.mpr ⟨vc433 (d + 1), fun _ h => absurd h List.not_mem_nil⟩⟩⟩⟩) (cpyX (d + 1)) (by decide +kernel)
noncomputable def Kc460 : Con := ((225, [(2, 0, 0, [150]), (0, iLo, iHi, []), (0, iLo, iHi, [])], []), [(150, 0, 0), (150, 11, 11)], [(some (0, (-1), (-1), []), [], [])])
set_option maxRecDepth 20000 in
theorem vc460 {l : Launch} {X : Nat × (Nat → Int32)} {e : Int} (d : Nat) : Vc l X U0 Pt6 e (d + 2) Kc460 :=
  ckf (d := (d + 1)) (Ks := [Kc431, Kc435, Kc458, Kc433]) (cy := 152) (cd := cdX7_faceFor) (nl := 6) (fuel := 1000) (Hs := []) (by decide +kernel) (by decide +kernel) (fun na b => by rw [← ceX7_faceFor]; exact tkX7_faceFor) (List.forall_mem_cons.mpr ⟨vc431 (d + 1), List.forall_mem_cons.mpr ⟨vc435 d, List.forall_mem_cons.mpr ⟨vc458 d, List.forall_mem_cons.mpr ⟨vc433 (d + 1), fun _ h => absurd h List.not_mem_nil⟩⟩⟩⟩) (cpyX (d + 1)) (by decide +kernel)
noncomputable def Kc461 : Con := ((228, [(2, 0, 0, [150]), (0, iLo, iHi, [])], []), [(150, 0, 0), (150, 11, 11)], [(some (0, (-1), (-1), []), [], [])])
set_option maxRecDepth 20000 in
theorem vc461 {l : Launch} {X : Nat × (Nat → Int32)} {e : Int} (d : Nat) : Vc l X U0 Pt6 e (d + 2) Kc461 :=
  ckf (d := (d + 1)) (Ks := [Kc431, Kc458, Kc433]) (cy := 152) (cd := cdX7_match) (nl := 3) (fuel := 1000) (Hs := []) (by decide +kernel) (by decide +kernel) (fun na b => by rw [← ceX7_match]; exact tkX7_match) (List.forall_mem_cons.mpr ⟨vc431 (d + 1), List.forall_mem_cons.mpr ⟨vc458 d, List.forall_mem_cons.mpr ⟨vc433 (d + 1), fun _ h => absurd h List.not_mem_nil⟩⟩⟩) (cpyX (d + 1)) (by decide +kernel)
noncomputable def Kc462 : Con := ((229, [(2, 0, 0, [150]), (0, iLo, iHi, [])], []), [(150, 0, 0), (150, 11, 11)], [(some (0, (-1), (-1), []), [], [])])
set_option maxRecDepth 20000 in
theorem vc462 {l : Launch} {X : Nat × (Nat → Int32)} {e : Int} (d : Nat) : Vc l X U0 Pt6 e (d + 2) Kc462 :=
  ckf (d := (d + 1)) (Ks := [Kc431, Kc458, Kc433]) (cy := 152) (cd := cdX7_matchDrops) (nl := 3) (fuel := 1000) (Hs := []) (by decide +kernel) (by decide +kernel) (fun na b => by rw [← ceX7_matchDrops]; exact tkX7_matchDrops) (List.forall_mem_cons.mpr ⟨vc431 (d + 1), List.forall_mem_cons.mpr ⟨vc458 d, List.forall_mem_cons.mpr ⟨vc433 (d + 1), fun _ h => absurd h List.not_mem_nil⟩⟩⟩) (cpyX (d + 1)) (by decide +kernel)
noncomputable def Kc463 : Con := ((230, [(2, 0, 0, [150]), (0, iLo, iHi, []), (0, iLo, iHi, [])], []), [(150, 0, 0), (150, 11, 11)], [(some (0, (-1), (-1), []), [], [])])
set_option maxRecDepth 20000 in
theorem vc463 {l : Launch} {X : Nat × (Nat → Int32)} {e : Int} (d : Nat) : Vc l X U0 Pt6 e (d + 2) Kc463 :=
  ckf (d := (d + 1)) (Ks := [Kc431, Kc435, Kc458, Kc433]) (cy := 152) (cd := cdX7_matchAt) (nl := 4) (fuel := 1000) (Hs := []) (by decide +kernel) (by decide +kernel) (fun na b => by rw [← ceX7_matchAt]; exact tkX7_matchAt) (List.forall_mem_cons.mpr ⟨vc431 (d + 1), List.forall_mem_cons.mpr ⟨vc435 d, List.forall_mem_cons.mpr ⟨vc458 d, List.forall_mem_cons.mpr ⟨vc433 (d + 1), fun _ h => absurd h List.not_mem_nil⟩⟩⟩⟩) (cpyX (d + 1)) (by decide +kernel)
noncomputable def Kc464 : Con := ((234, [(2, 0, 0, [150]), (0, iLo, iHi, []), (0, iLo, iHi, [])], []), [(150, 0, 0), (150, 11, 11), (150, 26, 26)], [(some (0, (-1), (-1), []), [], [])])
set_option maxRecDepth 20000 in
theorem vc464 {l : Launch} {X : Nat × (Nat → Int32)} {e : Int} (d : Nat) : Vc l X U0 Pt6 e (d + 2) Kc464 :=
  ckf (d := (d + 1)) (Ks := [Kc431, Kc437, Kc433]) (cy := 152) (cd := cdX7_steps) (nl := 3) (fuel := 1000) (Hs := []) (by decide +kernel) (by decide +kernel) (fun na b => by rw [← ceX7_steps]; exact tkX7_steps) (List.forall_mem_cons.mpr ⟨vc431 (d + 1), List.forall_mem_cons.mpr ⟨vc437 d, List.forall_mem_cons.mpr ⟨vc433 (d + 1), fun _ h => absurd h List.not_mem_nil⟩⟩⟩) (cpyX (d + 1)) (by decide +kernel)
noncomputable def Kc465 : Con := ((189, [(2, 0, 0, [150]), (0, iLo, iHi, [])], []), [], [(some (0, 0, 0, []), [], [])])
set_option maxRecDepth 20000 in
theorem vc465 {l : Launch} {X : Nat × (Nat → Int32)} {e : Int} (d : Nat) : Vc l X U0 Pt6 e (d + 1) Kc465 :=
  ckf (d := d) (Ks := []) (cy := 152) (cd := cdX7_isWalker) (nl := 2) (fuel := 1000) (Hs := []) (by decide +kernel) (by decide +kernel) (fun na b => by rw [← ceX7_isWalker]; exact tkX7_isWalker) (fun _ h => absurd h List.not_mem_nil) (cpyX d) (by decide +kernel)
noncomputable def Kc466 : Con := ((236, [(2, 0, 0, [150]), (0, iLo, iHi, []), (0, iLo, iHi, [])], []), [(150, 0, 0), (150, 11, 11)], [(some (0, (-1), (-1), []), [], [])])
set_option maxRecDepth 20000 in
theorem vc466 {l : Launch} {X : Nat × (Nat → Int32)} {e : Int} (d : Nat) : Vc l X U0 Pt6 e (d + 2) Kc466 :=
  ckf (d := (d + 1)) (Ks := [Kc431, Kc465, Kc450, Kc433]) (cy := 152) (cd := cdX7_wets) (nl := 5) (fuel := 1000) (Hs := []) (by decide +kernel) (by decide +kernel) (fun na b => by rw [← ceX7_wets]; exact tkX7_wets) (List.forall_mem_cons.mpr ⟨vc431 (d + 1), List.forall_mem_cons.mpr ⟨vc465 d, List.forall_mem_cons.mpr ⟨vc450 d, List.forall_mem_cons.mpr ⟨vc433 (d + 1), fun _ h => absurd h List.not_mem_nil⟩⟩⟩⟩) (cpyX (d + 1)) (by decide +kernel)
noncomputable def Kc467 : Con := ((237, [(2, 0, 0, [150]), (0, iLo, iHi, []), (0, iLo, iHi, [])], []), [(150, 0, 0), (150, 11, 11)], [(some (0, (-1), (-1), []), [], [])])
set_option maxRecDepth 20000 in
theorem vc467 {l : Launch} {X : Nat × (Nat → Int32)} {e : Int} (d : Nat) : Vc l X U0 Pt6 e (d + 2) Kc467 :=
  ckf (d := (d + 1)) (Ks := [Kc431, Kc465, Kc450, Kc433]) (cy := 152) (cd := cdX7_way) (nl := 5) (fuel := 1000) (Hs := []) (by decide +kernel) (by decide +kernel) (fun na b => by rw [← ceX7_way]; exact tkX7_way) (List.forall_mem_cons.mpr ⟨vc431 (d + 1), List.forall_mem_cons.mpr ⟨vc465 d, List.forall_mem_cons.mpr ⟨vc450 d, List.forall_mem_cons.mpr ⟨vc433 (d + 1), fun _ h => absurd h List.not_mem_nil⟩⟩⟩⟩) (cpyX (d + 1)) (by decide +kernel)
noncomputable def Kc468 : Con := ((239, [(2, 0, 0, [150]), (0, iLo, iHi, [])], []), [(150, 0, 0), (150, 11, 11)], [(some (0, (-1), (-1), []), [], [])])
set_option maxRecDepth 20000 in
theorem vc468 {l : Launch} {X : Nat × (Nat → Int32)} {e : Int} (d : Nat) : Vc l X U0 Pt6 e (d + 2) Kc468 :=
  ckf (d := (d + 1)) (Ks := [Kc431, Kc465, Kc433]) (cy := 152) (cd := cdX7_dryDay) (nl := 4) (fuel := 1000) (Hs := []) (by decide +kernel) (by decide +kernel) (fun na b => by rw [← ceX7_dryDay]; exact tkX7_dryDay) (List.forall_mem_cons.mpr ⟨vc431 (d + 1), List.forall_mem_cons.mpr ⟨vc465 d, List.forall_mem_cons.mpr ⟨vc433 (d + 1), fun _ h => absurd h List.not_mem_nil⟩⟩⟩) (cpyX (d + 1)) (by decide +kernel)
noncomputable def Kc469 : Con := ((241, [(2, 0, 0, [150])], []), [(150, 0, 0), (150, 11, 11)], [(some (0, (-1), (-1), []), [], [])])
set_option maxRecDepth 20000 in
theorem vc469 {l : Launch} {X : Nat × (Nat → Int32)} {e : Int} (d : Nat) : Vc l X U0 Pt6 e (d + 1) Kc469 :=
  ckf (d := d) (Ks := [Kc431, Kc433]) (cy := 152) (cd := cdX7_gate) (nl := 5) (fuel := 1000) (Hs := []) (by decide +kernel) (by decide +kernel) (fun na b => by rw [← ceX7_gate]; exact tkX7_gate) (List.forall_mem_cons.mpr ⟨vc431 d, List.forall_mem_cons.mpr ⟨vc433 d, fun _ h => absurd h List.not_mem_nil⟩⟩) (cpyX d) (by decide +kernel)
noncomputable def Kc470 : Con := ((244, [(2, 0, 0, [150])], []), [(150, 0, 0), (150, 11, 11)], [(some (0, (-1), (-1), []), [], [])])
set_option maxRecDepth 20000 in
theorem vc470 {l : Launch} {X : Nat × (Nat → Int32)} {e : Int} (d : Nat) : Vc l X U0 Pt6 e (d + 1) Kc470 :=
  ckf (d := d) (Ks := [Kc431, Kc433]) (cy := 152) (cd := cdX7_fits) (nl := 1) (fuel := 1000) (Hs := []) (by decide +kernel) (by decide +kernel) (fun na b => by rw [← ceX7_fits]; exact tkX7_fits) (List.forall_mem_cons.mpr ⟨vc431 d, List.forall_mem_cons.mpr ⟨vc433 d, fun _ h => absurd h List.not_mem_nil⟩⟩) (cpyX d) (by decide +kernel)
noncomputable def Kc471 : Con := ((245, [(2, 0, 0, [150]), (0, iLo, iHi, [])], []), [(150, 0, 0), (150, 11, 11)], [(some (0, (-1), (-1), []), [], [])])
set_option maxRecDepth 20000 in
theorem vc471 {l : Launch} {X : Nat × (Nat → Int32)} {e : Int} (d : Nat) : Vc l X U0 Pt6 e (d + 1) Kc471 :=
  ckf (d := d) (Ks := [Kc431, Kc433]) (cy := 152) (cd := cdX7_fitAt) (nl := 3) (fuel := 1000) (Hs := []) (by decide +kernel) (by decide +kernel) (fun na b => by rw [← ceX7_fitAt]; exact tkX7_fitAt) (List.forall_mem_cons.mpr ⟨vc431 d, List.forall_mem_cons.mpr ⟨vc433 d, fun _ h => absurd h List.not_mem_nil⟩⟩) (cpyX d) (by decide +kernel)
noncomputable def Kc472 : Con := ((246, [(2, 0, 0, [150])], []), [(150, 0, 0), (150, 11, 11)], [(some (0, (-1), (-1), []), [], [])])
set_option maxRecDepth 20000 in
theorem vc472 {l : Launch} {X : Nat × (Nat → Int32)} {e : Int} (d : Nat) : Vc l X U0 Pt6 e (d + 1) Kc472 :=
  ckf (d := d) (Ks := [Kc431, Kc433]) (cy := 152) (cd := cdX7_could) (nl := 1) (fuel := 1000) (Hs := []) (by decide +kernel) (by decide +kernel) (fun na b => by rw [← ceX7_could]; exact tkX7_could) (List.forall_mem_cons.mpr ⟨vc431 d, List.forall_mem_cons.mpr ⟨vc433 d, fun _ h => absurd h List.not_mem_nil⟩⟩) (cpyX d) (by decide +kernel)
noncomputable def Kc473 : Con := ((247, [(2, 0, 0, [150])], []), [(150, 0, 0), (150, 11, 11)], [(some (0, (-1), (-1), []), [], [])])
set_option maxRecDepth 20000 in
theorem vc473 {l : Launch} {X : Nat × (Nat → Int32)} {e : Int} (d : Nat) : Vc l X U0 Pt6 e (d + 1) Kc473 :=
  ckf (d := d) (Ks := [Kc431, Kc433]) (cy := 152) (cd := cdX7_surely) (nl := 1) (fuel := 1000) (Hs := []) (by decide +kernel) (by decide +kernel) (fun na b => by rw [← ceX7_surely]; exact tkX7_surely) (List.forall_mem_cons.mpr ⟨vc431 d, List.forall_mem_cons.mpr ⟨vc433 d, fun _ h => absurd h List.not_mem_nil⟩⟩) (cpyX d) (by decide +kernel)
noncomputable def Kc474 : Con := ((250, [(2, 0, 0, [150])], []), [(150, 0, 0), (150, 11, 11)], [(some (0, (-1), (-1), []), [], [])])
set_option maxRecDepth 20000 in
theorem vc474 {l : Launch} {X : Nat × (Nat → Int32)} {e : Int} (d : Nat) : Vc l X U0 Pt6 e (d + 1) Kc474 :=
  ckf (d := d) (Ks := [Kc431, Kc433]) (cy := 152) (cd := cdX7_ask) (nl := 1) (fuel := 1000) (Hs := []) (by decide +kernel) (by decide +kernel) (fun na b => by rw [← ceX7_ask]; exact tkX7_ask) (List.forall_mem_cons.mpr ⟨vc431 d, List.forall_mem_cons.mpr ⟨vc433 d, fun _ h => absurd h List.not_mem_nil⟩⟩) (cpyX d) (by decide +kernel)
noncomputable def Kc475 : Con := ((251, [(2, 0, 0, [150])], []), [(150, 0, 0), (150, 11, 11)], [(some (0, (-1), (-1), []), [], [])])
set_option maxRecDepth 20000 in
theorem vc475 {l : Launch} {X : Nat × (Nat → Int32)} {e : Int} (d : Nat) : Vc l X U0 Pt6 e (d + 1) Kc475 :=
  ckf (d := d) (Ks := [Kc431, Kc433]) (cy := 152) (cd := cdX7_askLeaves) (nl := 2) (fuel := 1000) (Hs := []) (by decide +kernel) (by decide +kernel) (fun na b => by rw [← ceX7_askLeaves]; exact tkX7_askLeaves) (List.forall_mem_cons.mpr ⟨vc431 d, List.forall_mem_cons.mpr ⟨vc433 d, fun _ h => absurd h List.not_mem_nil⟩⟩) (cpyX d) (by decide +kernel)
noncomputable def Kc476 : Con := ((252, [(2, 0, 0, [150])], []), [(150, 0, 0), (150, 11, 11)], [(some (0, (-1), (-1), []), [], [])])
set_option maxRecDepth 20000 in
theorem vc476 {l : Launch} {X : Nat × (Nat → Int32)} {e : Int} (d : Nat) : Vc l X U0 Pt6 e (d + 1) Kc476 :=
  ckf (d := d) (Ks := [Kc431, Kc433]) (cy := 152) (cd := cdX7_judge) (nl := 1) (fuel := 1000) (Hs := []) (by decide +kernel) (by decide +kernel) (fun na b => by rw [← ceX7_judge]; exact tkX7_judge) (List.forall_mem_cons.mpr ⟨vc431 d, List.forall_mem_cons.mpr ⟨vc433 d, fun _ h => absurd h List.not_mem_nil⟩⟩) (cpyX d) (by decide +kernel)
noncomputable def Kc477 : Con := ((149, [(0, iLo, iHi, []), (0, 0, 0, []), (0, 9, 9, [])], []), [], [(some (0, 0, 0, []), [], []), (some (0, 1, 1, []), [(0, 0, 9)], [])])
set_option maxRecDepth 20000 in
theorem vc477 {l : Launch} {X : Nat × (Nat → Int32)} {e : Int} (d : Nat) : Vc l X U0 Pt6 e d Kc477 :=
  ckf (d := d) (Ks := []) (cy := 152) (cd := cdX7_in) (nl := 3) (fuel := 1000) (Hs := []) (by decide +kernel) (by decide +kernel) (fun na b => by rw [← ceX7_in]; exact tkX7_in) (fun _ h => absurd h List.not_mem_nil) (cpyX d) (by decide +kernel)
noncomputable def Kc478 : Con := ((255, [(2, 0, 0, [150]), (0, iLo, iHi, []), (0, iLo, iHi, []), (0, iLo, iHi, []), (0, iLo, iHi, [])], []), [(150, 0, 0), (150, 11, 11)], [(some (0, (-100), (-100), []), [], [])])
set_option maxRecDepth 20000 in
theorem vc478 {l : Launch} {X : Nat × (Nat → Int32)} {e : Int} (d : Nat) : Vc l X U0 Pt6 e (d + 1) Kc478 :=
  ckf (d := d) (Ks := [Kc431, Kc477, Kc441, Kc442]) (cy := 152) (cd := cdX7_sulks) (nl := 6) (fuel := 1000) (Hs := []) (by decide +kernel) (by decide +kernel) (fun na b => by rw [← ceX7_sulks]; exact tkX7_sulks) (List.forall_mem_cons.mpr ⟨vc431 d, List.forall_mem_cons.mpr ⟨vc477 d, List.forall_mem_cons.mpr ⟨vc441 d, List.forall_mem_cons.mpr ⟨vc442 d, fun _ h => absurd h List.not_mem_nil⟩⟩⟩⟩) (cpyX d) (by decide +kernel)
noncomputable def Kc479 : Con := ((257, [(2, 0, 0, [150]), (0, iLo, iHi, [])], []), [(150, 0, 0), (150, 11, 11)], [(some (0, (-1), (-1), []), [], [])])
set_option maxRecDepth 20000 in
theorem vc479 {l : Launch} {X : Nat × (Nat → Int32)} {e : Int} (d : Nat) : Vc l X U0 Pt6 e (d + 1) Kc479 :=
  ckf (d := d) (Ks := [Kc431, Kc477, Kc441, Kc433, Kc442]) (cy := 152) (cd := cdX7_rests) (nl := 3) (fuel := 1000) (Hs := []) (by decide +kernel) (by decide +kernel) (fun na b => by rw [← ceX7_rests]; exact tkX7_rests) (List.forall_mem_cons.mpr ⟨vc431 d, List.forall_mem_cons.mpr ⟨vc477 d, List.forall_mem_cons.mpr ⟨vc441 d, List.forall_mem_cons.mpr ⟨vc433 d, List.forall_mem_cons.mpr ⟨vc442 d, fun _ h => absurd h List.not_mem_nil⟩⟩⟩⟩⟩) (cpyX d) (by decide +kernel)
noncomputable def Kc480 : Con := ((258, [(2, 0, 0, [150]), (0, iLo, iHi, [])], []), [(150, 0, 0), (150, 11, 11)], [(some (0, (-1), (-1), []), [], [])])
set_option maxRecDepth 20000 in
theorem vc480 {l : Launch} {X : Nat × (Nat → Int32)} {e : Int} (d : Nat) : Vc l X U0 Pt6 e (d + 1) Kc480 :=
  ckf (d := d) (Ks := [Kc431, Kc477, Kc441, Kc433, Kc442]) (cy := 152) (cd := cdX7_rest) (nl := 3) (fuel := 1000) (Hs := []) (by decide +kernel) (by decide +kernel) (fun na b => by rw [← ceX7_rest]; exact tkX7_rest) (List.forall_mem_cons.mpr ⟨vc431 d, List.forall_mem_cons.mpr ⟨vc477 d, List.forall_mem_cons.mpr ⟨vc441 d, List.forall_mem_cons.mpr ⟨vc433 d, List.forall_mem_cons.mpr ⟨vc442 d, fun _ h => absurd h List.not_mem_nil⟩⟩⟩⟩⟩) (cpyX d) (by decide +kernel)
noncomputable def Kc481 : Con := ((149, [(0, iLo, iHi, []), (0, 0, 0, []), (0, 7, 7, [])], []), [], [(some (0, 0, 0, []), [], []), (some (0, 1, 1, []), [(0, 0, 7)], [])])
set_option maxRecDepth 20000 in
theorem vc481 {l : Launch} {X : Nat × (Nat → Int32)} {e : Int} (d : Nat) : Vc l X U0 Pt6 e d Kc481 :=
  ckf (d := d) (Ks := []) (cy := 152) (cd := cdX7_in) (nl := 3) (fuel := 1000) (Hs := []) (by decide +kernel) (by decide +kernel) (fun na b => by rw [← ceX7_in]; exact tkX7_in) (fun _ h => absurd h List.not_mem_nil) (cpyX d) (by decide +kernel)
noncomputable def Kc482 : Con := ((260, [(2, 0, 0, [150]), (0, iLo, iHi, []), (0, iLo, iHi, []), (0, iLo, iHi, [])], []), [(150, 0, 0), (150, 11, 11)], [(some (1, (-1), (-1), []), [], [])])
set_option maxRecDepth 20000 in
theorem vc482 {l : Launch} {X : Nat × (Nat → Int32)} {e : Int} (d : Nat) : Vc l X U0 Pt6 e (d + 2) Kc482 :=
  ckf (d := (d + 1)) (Ks := [Kc431, Kc432, Kc481, Kc441, Kc433, Kc442]) (cy := 152) (cd := cdX7_odds) (nl := 5) (fuel := 1000) (Hs := []) (by decide +kernel) (by decide +kernel) (fun na b => by rw [← ceX7_odds]; exact tkX7_odds) (List.forall_mem_cons.mpr ⟨vc431 (d + 1), List.forall_mem_cons.mpr ⟨vc432 d, List.forall_mem_cons.mpr ⟨vc481 (d + 1), List.forall_mem_cons.mpr ⟨vc441 (d + 1), List.forall_mem_cons.mpr ⟨vc433 (d + 1), List.forall_mem_cons.mpr ⟨vc442 (d + 1), fun _ h => absurd h List.not_mem_nil⟩⟩⟩⟩⟩⟩) (cpyX (d + 1)) (by decide +kernel)
noncomputable def Kc483 : Con := ((261, [(2, 0, 0, [150]), (0, iLo, iHi, []), (0, iLo, iHi, []), (0, iLo, iHi, [])], []), [(150, 0, 0), (150, 11, 11)], [(some (1, (-1), (-1), []), [], [])])
set_option maxRecDepth 20000 in
theorem vc483 {l : Launch} {X : Nat × (Nat → Int32)} {e : Int} (d : Nat) : Vc l X U0 Pt6 e (d + 2) Kc483 :=
  ckf (d := (d + 1)) (Ks := [Kc431, Kc432, Kc481, Kc441, Kc433, Kc442]) (cy := 152) (cd := cdX7_mean) (nl := 5) (fuel := 1000) (Hs := []) (by decide +kernel) (by decide +kernel) (fun na b => by rw [← ceX7_mean]; exact tkX7_mean) (List.forall_mem_cons.mpr ⟨vc431 (d + 1), List.forall_mem_cons.mpr ⟨vc432 d, List.forall_mem_cons.mpr ⟨vc481 (d + 1), List.forall_mem_cons.mpr ⟨vc441 (d + 1), List.forall_mem_cons.mpr ⟨vc433 (d + 1), List.forall_mem_cons.mpr ⟨vc442 (d + 1), fun _ h => absurd h List.not_mem_nil⟩⟩⟩⟩⟩⟩) (cpyX (d + 1)) (by decide +kernel)
noncomputable def Kc484 : Con := ((149, [(0, iLo, iHi, []), (0, 0, 0, []), (0, 65536, 65536, [])], []), [], [(some (0, 0, 0, []), [], []), (some (0, 1, 1, []), [(0, 0, 65536)], [])])
set_option maxRecDepth 20000 in
theorem vc484 {l : Launch} {X : Nat × (Nat → Int32)} {e : Int} (d : Nat) : Vc l X U0 Pt6 e d Kc484 :=
  ckf (d := d) (Ks := []) (cy := 152) (cd := cdX7_in) (nl := 3) (fuel := 1000) (Hs := []) (by decide +kernel) (by decide +kernel) (fun na b => by rw [← ceX7_in]; exact tkX7_in) (fun _ h => absurd h List.not_mem_nil) (cpyX d) (by decide +kernel)
noncomputable def Kc485 : Con := ((262, [(2, 0, 0, [150]), (0, 0, 0, []), (0, iLo, iHi, []), (0, iLo, iHi, [])], []), [], [(some (0, 1, 1, []), [], [])])
set_option maxRecDepth 20000 in
theorem vc485 {l : Launch} {X : Nat × (Nat → Int32)} {e : Int} (d : Nat) : Vc l X U0 Pt6 e (d + 1) Kc485 :=
  ckf (d := d) (Ks := [Kc484, Kc441, Kc440, Kc442]) (cy := 152) (cd := cdX7_drawWhy) (nl := 7) (fuel := 1000) (Hs := []) (by decide +kernel) (by decide +kernel) (fun na b => by rw [← ceX7_drawWhy]; exact tkX7_drawWhy) (List.forall_mem_cons.mpr ⟨vc484 d, List.forall_mem_cons.mpr ⟨vc441 d, List.forall_mem_cons.mpr ⟨vc440 d, List.forall_mem_cons.mpr ⟨vc442 d, fun _ h => absurd h List.not_mem_nil⟩⟩⟩⟩) (cpyX d) (by decide +kernel)
noncomputable def Kc486 : Con := ((263, [(2, 0, 0, [150]), (0, iLo, iHi, []), (0, iLo, iHi, []), (0, iLo, iHi, [])], []), [(150, 0, 0), (150, 11, 11)], [(some (0, (-1), (-1), []), [], [])])
set_option maxRecDepth 20000 in
theorem vc486 {l : Launch} {X : Nat × (Nat → Int32)} {e : Int} (d : Nat) : Vc l X U0 Pt6 e (d + 2) Kc486 :=
  ckf (d := (d + 1)) (Ks := [Kc431, Kc432, Kc485, Kc433]) (cy := 152) (cd := cdX7_borne) (nl := 5) (fuel := 1000) (Hs := []) (by decide +kernel) (by decide +kernel) (fun na b => by rw [← ceX7_borne]; exact tkX7_borne) (List.forall_mem_cons.mpr ⟨vc431 (d + 1), List.forall_mem_cons.mpr ⟨vc432 d, List.forall_mem_cons.mpr ⟨vc485 d, List.forall_mem_cons.mpr ⟨vc433 (d + 1), fun _ h => absurd h List.not_mem_nil⟩⟩⟩⟩) (cpyX (d + 1)) (by decide +kernel)
noncomputable def Kc487 : Con := ((264, [(2, 0, 0, [150]), (0, iLo, iHi, []), (0, iLo, iHi, [])], []), [(150, 0, 0), (150, 11, 11)], [(some (0, (-1), (-1), []), [], [])])
set_option maxRecDepth 20000 in
theorem vc487 {l : Launch} {X : Nat × (Nat → Int32)} {e : Int} (d : Nat) : Vc l X U0 Pt6 e (d + 2) Kc487 :=
  ckf (d := (d + 1)) (Ks := [Kc431, Kc485, Kc433]) (cy := 152) (cd := cdX7_firstWet) (nl := 4) (fuel := 1000) (Hs := []) (by decide +kernel) (by decide +kernel) (fun na b => by rw [← ceX7_firstWet]; exact tkX7_firstWet) (List.forall_mem_cons.mpr ⟨vc431 (d + 1), List.forall_mem_cons.mpr ⟨vc485 d, List.forall_mem_cons.mpr ⟨vc433 (d + 1), fun _ h => absurd h List.not_mem_nil⟩⟩⟩) (cpyX (d + 1)) (by decide +kernel)
noncomputable def Kc488 : Con := ((266, [(2, 0, 0, [150])], []), [(150, 0, 0), (150, 11, 11)], [(some (0, (-1), (-1), []), [], [])])
set_option maxRecDepth 20000 in
theorem vc488 {l : Launch} {X : Nat × (Nat → Int32)} {e : Int} (d : Nat) : Vc l X U0 Pt6 e (d + 1) Kc488 :=
  ckf (d := d) (Ks := [Kc431, Kc433]) (cy := 152) (cd := cdX7_day) (nl := 1) (fuel := 1000) (Hs := []) (by decide +kernel) (by decide +kernel) (fun na b => by rw [← ceX7_day]; exact tkX7_day) (List.forall_mem_cons.mpr ⟨vc431 d, List.forall_mem_cons.mpr ⟨vc433 d, fun _ h => absurd h List.not_mem_nil⟩⟩) (cpyX d) (by decide +kernel)
noncomputable def Kc489 : Con := ((267, [(2, 0, 0, [150]), (0, iLo, iHi, []), (0, iLo, iHi, [])], []), [(150, 0, 0), (150, 11, 11)], [(some (0, (-1), (-1), []), [], [])])
set_option maxRecDepth 20000 in
theorem vc489 {l : Launch} {X : Nat × (Nat → Int32)} {e : Int} (d : Nat) : Vc l X U0 Pt6 e (d + 2) Kc489 :=
  ckf (d := (d + 1)) (Ks := [Kc431, Kc435, Kc433]) (cy := 152) (cd := cdX7_give) (nl := 4) (fuel := 1000) (Hs := []) (by decide +kernel) (by decide +kernel) (fun na b => by rw [← ceX7_give]; exact tkX7_give) (List.forall_mem_cons.mpr ⟨vc431 (d + 1), List.forall_mem_cons.mpr ⟨vc435 d, List.forall_mem_cons.mpr ⟨vc433 (d + 1), fun _ h => absurd h List.not_mem_nil⟩⟩⟩) (cpyX (d + 1)) (by decide +kernel)
noncomputable def Kc490 : Con := ((148, [(2, 0, 0, [150]), (0, iLo, iHi, [])], []), [(150, 11, 11)], [(some (0, 0, 0, []), [], [])])
set_option maxRecDepth 20000 in
theorem vc490 {l : Launch} {X : Nat × (Nat → Int32)} {e : Int} (d : Nat) : Vc l X U0 Pt6 e d Kc490 :=
  ckf (d := d) (Ks := []) (cy := 152) (cd := cdX7_isNot) (nl := 2) (fuel := 1000) (Hs := []) (by decide +kernel) (by decide +kernel) (fun na b => by rw [← ceX7_isNot]; exact tkX7_isNot) (fun _ h => absurd h List.not_mem_nil) (cpyX d) (by decide +kernel)
noncomputable def Kc491 : Con := ((268, [(2, 0, 0, [150]), (0, iLo, iHi, [])], []), [(150, 0, 0), (150, 11, 11)], [(some (0, 0, 0, []), [], [])])
set_option maxRecDepth 20000 in
theorem vc491 {l : Launch} {X : Nat × (Nat → Int32)} {e : Int} (d : Nat) : Vc l X U0 Pt6 e (d + 2) Kc491 :=
  ckf (d := (d + 1)) (Ks := [Kc431, Kc432, Kc490]) (cy := 152) (cd := cdX7_mend) (nl := 3) (fuel := 1000) (Hs := []) (by decide +kernel) (by decide +kernel) (fun na b => by rw [← ceX7_mend]; exact tkX7_mend) (List.forall_mem_cons.mpr ⟨vc431 (d + 1), List.forall_mem_cons.mpr ⟨vc432 d, List.forall_mem_cons.mpr ⟨vc490 (d + 1), fun _ h => absurd h List.not_mem_nil⟩⟩⟩) (cpyX (d + 1)) (by decide +kernel)
noncomputable def Kc492 : Con := ((149, [(0, iLo, iHi, []), (0, 1, 1, []), (0, 99, 99, [])], []), [], [(some (0, 0, 0, []), [], []), (some (0, 1, 1, []), [(0, 1, 99)], [])])
set_option maxRecDepth 20000 in
theorem vc492 {l : Launch} {X : Nat × (Nat → Int32)} {e : Int} (d : Nat) : Vc l X U0 Pt6 e d Kc492 :=
  ckf (d := d) (Ks := []) (cy := 152) (cd := cdX7_in) (nl := 3) (fuel := 1000) (Hs := []) (by decide +kernel) (by decide +kernel) (fun na b => by rw [← ceX7_in]; exact tkX7_in) (fun _ h => absurd h List.not_mem_nil) (cpyX d) (by decide +kernel)
noncomputable def Kc493 : Con := ((269, [(2, 0, 0, [150]), (0, iLo, iHi, []), (0, iLo, iHi, [])], []), [(150, 0, 0), (150, 11, 11)], [(some (0, (-1), (-1), []), [], [])])
set_option maxRecDepth 20000 in
theorem vc493 {l : Launch} {X : Nat × (Nat → Int32)} {e : Int} (d : Nat) : Vc l X U0 Pt6 e (d + 2) Kc493 :=
  ckf (d := (d + 1)) (Ks := [Kc431, Kc432, Kc492, Kc441, Kc433, Kc442]) (cy := 152) (cd := cdX7_vex) (nl := 4) (fuel := 1000) (Hs := []) (by decide +kernel) (by decide +kernel) (fun na b => by rw [← ceX7_vex]; exact tkX7_vex) (List.forall_mem_cons.mpr ⟨vc431 (d + 1), List.forall_mem_cons.mpr ⟨vc432 d, List.forall_mem_cons.mpr ⟨vc492 (d + 1), List.forall_mem_cons.mpr ⟨vc441 (d + 1), List.forall_mem_cons.mpr ⟨vc433 (d + 1), List.forall_mem_cons.mpr ⟨vc442 (d + 1), fun _ h => absurd h List.not_mem_nil⟩⟩⟩⟩⟩⟩) (cpyX (d + 1)) (by decide +kernel)
noncomputable def Kc494 : Con := ((270, [(2, 0, 0, [150])], []), [(150, 0, 0), (150, 11, 11), (150, 22, 22), (157, 0, 24)], [(some (0, 0, 0, []), [], []), (some (0, 1, 1, []), [], [])])
set_option maxRecDepth 20000 in
theorem vc494 {l : Launch} {X : Nat × (Nat → Int32)} {e : Int} (d : Nat) : Vc l X U0 Pt6 e (d + 1) Kc494 :=
  ckf (d := d) (Ks := [Kc431, Kc490]) (cy := 152) (cd := cdX7_undo) (nl := 1) (fuel := 1000) (Hs := [((28, 1), ([(0, (2, 0, 0, [150]))], [], [(0, 0), (0, 15)], [(150, 22, (0, 1, 0, []))]), [(2, 150, 22)], (0, []), [])]) (by decide +kernel) (by decide +kernel) (fun na b => by rw [← ceX7_undo]; exact tkX7_undo) (List.forall_mem_cons.mpr ⟨vc431 d, List.forall_mem_cons.mpr ⟨vc490 d, fun _ h => absurd h List.not_mem_nil⟩⟩) (cpyX d) (by decide +kernel)
noncomputable def Kc495 : Con := ((271, [(2, 0, 0, [150])], []), [(150, 0, 0), (150, 11, 11)], [(some (0, (-1), (-1), []), [], [])])
set_option maxRecDepth 20000 in
theorem vc495 {l : Launch} {X : Nat × (Nat → Int32)} {e : Int} (d : Nat) : Vc l X U0 Pt6 e (d + 1) Kc495 :=
  ckf (d := d) (Ks := [Kc431, Kc433]) (cy := 152) (cd := cdX7_image) (nl := 1) (fuel := 1000) (Hs := []) (by decide +kernel) (by decide +kernel) (fun na b => by rw [← ceX7_image]; exact tkX7_image) (List.forall_mem_cons.mpr ⟨vc431 d, List.forall_mem_cons.mpr ⟨vc433 d, fun _ h => absurd h List.not_mem_nil⟩⟩) (cpyX d) (by decide +kernel)
noncomputable def Kc496 : Con := ((149, [(0, iLo, iHi, []), (0, 0, 0, []), (0, (-1), 2, [])], []), [], [(some (0, 0, 0, []), [], []), (some (0, 1, 1, []), [(0, 0, 2), (2, 0, 2)], [])])
set_option maxRecDepth 20000 in
theorem vc496 {l : Launch} {X : Nat × (Nat → Int32)} {e : Int} (d : Nat) : Vc l X U0 Pt6 e d Kc496 :=
  ckf (d := d) (Ks := []) (cy := 152) (cd := cdX7_in) (nl := 3) (fuel := 1000) (Hs := []) (by decide +kernel) (by decide +kernel) (fun na b => by rw [← ceX7_in]; exact tkX7_in) (fun _ h => absurd h List.not_mem_nil) (cpyX d) (by decide +kernel)
noncomputable def Kc497 : Con := ((272, [(2, 0, 0, [150]), (0, iLo, iHi, [])], []), [(150, 0, 0), (150, 11, 11), (150, 22, 22), (157, 0, 24)], [(some (0, 0, 0, []), [], []), (some (0, 1, 1, []), [], [])])
set_option maxRecDepth 20000 in
theorem vc497 {l : Launch} {X : Nat × (Nat → Int32)} {e : Int} (d : Nat) : Vc l X U0 Pt6 e (d + 1) Kc497 :=
  ckf (d := d) (Ks := [Kc431, Kc496, Kc490]) (cy := 152) (cd := cdX7_back) (nl := 2) (fuel := 1000) (Hs := [((24, 1), ([(0, (2, 0, 0, [150])), (1, (0, 1, 0, []))], [], [(0, 0), (0, 2)], []), [(0, 1, 0)], (0, []), [])]) (by decide +kernel) (by decide +kernel) (fun na b => by rw [← ceX7_back]; exact tkX7_back) (List.forall_mem_cons.mpr ⟨vc431 d, List.forall_mem_cons.mpr ⟨vc496 d, List.forall_mem_cons.mpr ⟨vc490 d, fun _ h => absurd h List.not_mem_nil⟩⟩⟩) (cpyX d) (by decide +kernel)
noncomputable def Kc498 : Con := ((273, [(2, 0, 0, [150]), (0, iLo, iHi, [])], []), [(150, 0, 0)], [(some (0, 0, 0, []), [], [])])
set_option maxRecDepth 20000 in
theorem vc498 {l : Launch} {X : Nat × (Nat → Int32)} {e : Int} (d : Nat) : Vc l X U0 Pt6 e (d + 1) Kc498 :=
  ckf (d := d) (Ks := []) (cy := 152) (cd := cdX7_led) (nl := 4) (fuel := 1000) (Hs := [((4, 0), ([(0, (2, 0, 0, [150])), (1, (0, 1, 0, [])), (2, (0, 0, 0, [])), (3, (0, 0, 0, []))], [], [(0, 0), (iLo, iHi)], []), [(0, 1, 0)], (0, []), [])]) (by decide +kernel) (by decide +kernel) (fun na b => by rw [← ceX7_led]; exact tkX7_led) (fun _ h => absurd h List.not_mem_nil) (cpyX d) (by decide +kernel)
noncomputable def Kc499 : Con := ((149, [(0, iLo, iHi, []), (0, 0, 0, []), (0, 11, 11, [])], []), [], [(some (0, 0, 0, []), [], []), (some (0, 1, 1, []), [(0, 0, 11)], [])])
set_option maxRecDepth 20000 in
theorem vc499 {l : Launch} {X : Nat × (Nat → Int32)} {e : Int} (d : Nat) : Vc l X U0 Pt6 e d Kc499 :=
  ckf (d := d) (Ks := []) (cy := 152) (cd := cdX7_in) (nl := 3) (fuel := 1000) (Hs := []) (by decide +kernel) (by decide +kernel) (fun na b => by rw [← ceX7_in]; exact tkX7_in) (fun _ h => absurd h List.not_mem_nil) (cpyX d) (by decide +kernel)
noncomputable def Kc500 : Con := ((274, [(2, 0, 0, [150]), (0, iLo, iHi, [])], []), [(150, 0, 0)], [(some (0, (-1), (-1), []), [], []), (some (0, 0, 900, []), [(1, 0, 12)], [])])
set_option maxRecDepth 20000 in
theorem vc500 {l : Launch} {X : Nat × (Nat → Int32)} {e : Int} (d : Nat) : Vc l X U0 Pt6 e (d + 1) Kc500 :=
  ckf (d := d) (Ks := [Kc499]) (cy := 152) (cd := cdX7_size) (nl := 2) (fuel := 1000) (Hs := []) (by decide +kernel) (by decide +kernel) (fun na b => by rw [← ceX7_size]; exact tkX7_size) (List.forall_mem_cons.mpr ⟨vc499 d, fun _ h => absurd h List.not_mem_nil⟩) (cpyX d) (by decide +kernel)
noncomputable def Kc501 : Con := ((275, [(2, 0, 0, [150])], []), [(150, 0, 0)], [(some (0, iLo, iHi, []), [], [])])
set_option maxRecDepth 20000 in
theorem vc501 {l : Launch} {X : Nat × (Nat → Int32)} {e : Int} (d : Nat) : Vc l X U0 Pt6 e d Kc501 :=
  ckf (d := d) (Ks := []) (cy := 152) (cd := cdX7_trouble) (nl := 1) (fuel := 1000) (Hs := []) (by decide +kernel) (by decide +kernel) (fun na b => by rw [← ceX7_trouble]; exact tkX7_trouble) (fun _ h => absurd h List.not_mem_nil) (cpyX d) (by decide +kernel)
noncomputable def Kc502 : Con := ((183, [(2, 0, 0, [150])], []), [(150, 0, 0)], [(some (0, iLo, iHi, []), [], [])])
set_option maxRecDepth 20000 in
theorem vc502 {l : Launch} {X : Nat × (Nat → Int32)} {e : Int} (d : Nat) : Vc l X U0 Pt6 e d Kc502 :=
  ckf (d := d) (Ks := []) (cy := 152) (cd := cdX7_fault) (nl := 1) (fuel := 1000) (Hs := []) (by decide +kernel) (by decide +kernel) (fun na b => by rw [← ceX7_fault]; exact tkX7_fault) (fun _ h => absurd h List.not_mem_nil) (cpyX d) (by decide +kernel)
noncomputable def Kc503 : Con := ((184, [(2, 0, 0, [150])], []), [(150, 0, 0)], [(some (0, (-1), (-1), []), [], []), (some (0, iLo, iHi, []), [], [])])
set_option maxRecDepth 20000 in
theorem vc503 {l : Launch} {X : Nat × (Nat → Int32)} {e : Int} (d : Nat) : Vc l X U0 Pt6 e d Kc503 :=
  ckf (d := d) (Ks := []) (cy := 152) (cd := cdX7_where) (nl := 1) (fuel := 1000) (Hs := []) (by decide +kernel) (by decide +kernel) (fun na b => by rw [← ceX7_where]; exact tkX7_where) (fun _ h => absurd h List.not_mem_nil) (cpyX d) (by decide +kernel)
end
section
/-! the reference's wayAt -/
section WAY
variable {l : Launch} {X : Nat × (Nat → Int32)} {d : Nat} {M : Mm} {kr : KR} {R : List (Nat × List Row)} {e : Int}
/-- contracts of what it calls, in plain words -/
noncomputable def wyO (l : Launch) (X : Nat × (Nat → Int32)) (R : List (Nat × List Row)) (e : Int) (d : Nat) : Prop := (∀ (M : Mm) (kr : KR), Iv (mkP R) M → eO e M → (∀ M', Jv (mkP R) [(150, 0, 0), (150, 11, 11)] (M, e) M' → kr none M') → Ev l X uX7_good d true 0 0 [.ref 150] M kr) ∧ (∀ (w : Int32) (M : Mm) (kr : KR), Iv (mkP R) M → eO e M → (∀ M', Jv (mkP R) [(150, 11, 11)] (M, e) M' → kr (some (.int (-1))) M') → Ev l X uX7_no d true 0 0 [.ref 150, .int w] M kr) ∧ (∀ (w : Int32) (M : Mm) (kr : KR), Iv (mkP R) M → eO e M → (∀ M', Jv (mkP R) [] (M, e) M' → kr (some (.int 0)) M') → (∀ M', Jv (mkP R) [] (M, e) M' → 0 ≤ w.toInt → w.toInt ≤ 3 → kr (some (.int 1)) M') → Ev l X uX7_isWalker d true 0 0 [.ref 150, .int w] M kr)
noncomputable def wyD (l : Launch) (X : Nat × (Nat → Int32)) (R : List (Nat × List Row)) (e : Int) (d : Nat) : Prop := ∀ (n : Int32) (M : Mm) (kr : KR), Iv (mkP R) M → eO e M → (∀ M', Jv (mkP R) msD9 (M, e) M' → kr none M') → Ev l X uX7_daysOn d true 0 0 [.ref 150, .int n] M kr
noncomputable def msW : Md3 := [(150, 26, 26), (160, 0, 4), (161, 0, 24), (164, 0, 19)]
/-- what is known of the tables -/
noncomputable def wyR (R : List (Nat × List Row)) : Prop := rwB (lkR R 153) 0 = (2, 5) ∧ rwB (lkR R 153) 1 = (0, 4) ∧ lkR R 164 = [] ∧ rwB (lkR R 150) 26 = (iLo, iHi) ∧ ∀ j, 45 ≤ j → j ≤ 52 → rwB (lkR R 153) j = (0, 19)
theorem wk_b {j : Nat} (hR : wyR R) (hI : Iv (mkP R) M) (h1 : 45 ≤ j) (h2 : j ≤ 52) : ∃ n : Nat, n < 20 ∧ mI M 153 j = nI n := by
  have b := hI.2.2.2 153 j (by decide)
  have e1 : rwB ((mkP R).2.2 153) j = (0, 19) := hR.2.2.2.2 j h1 h2
  rw [e1] at b
  have b : (0 : Int) ≤ (mI M 153 j).toInt ∧ (mI M 153 j).toInt ≤ 19 := b
  exact ⟨(mI M 153 j).toInt.toNat, by omega, nI_at (by omega) (by omega)⟩
theorem wk_i {W : Nat} (h : W ≤ 3) : (45 : Int32) + 2 * nI W = nI (45 + 2 * W) := by
  have : W = 0 ∨ W = 1 ∨ W = 2 ∨ W = 3 := by omega
  rcases this with rfl | rfl | rfl | rfl <;> decide
set_option maxRecDepth 20000 in
theorem wo_ev {W : Nat} {n : Int32} (hR : wyR R) (hD : wyD l X R e (d + 3)) (hI : Iv (mkP R) M) (he : eO e M) (hW : W ≤ 3) (h : ∀ (M2 M3 : Mm) (to fr : Nat) (c : Int32), Iv (mkP R) M2 → Jv (mkP R) msW (M, e) M3 → lyJ R e M2 M3 → lyI M2 (mI M2 161 24) to M3 → lyF M2 (mI M2 161 24) M3 → to < 20 → fr < 20 → mI M3 153 (45 + 2 * W) = nI fr → (c = -2 ∨ (c = mI M3 164 fr ∧ cw M3 fr < 100000000)) → kr (some (.int c)) M3) : Ev l X uX7_wayOf (d + 4) true 0 0 [.ref 150, .int (nI W), .int n] M kr := by
  have k150 : kk M 150 7 = true := kk_ok hI rfl
  refine Ev.of (by decide) (Nat.le_of_ble_eq_true rfl) ?_
  have hJ0 : Jv (mkP R) msW (M, e) M := Jv.rf hI he
  have hJ1 : Jv (mkP R) msW (M, e) (wI M 150 26 (-1)) := Jv.wI hJ0 (by
    have e1 : rwB ((mkP R).2.2 150) 26 = (iLo, iHi) := hR.2.2.2.1
    rw [e1]
    exact ⟨by decide, by decide⟩) (by decide) (by decide)
  refine Wf.sAl tkX7_wayOf rfl rfl rfl ?_
  refine Wf.sIc tkX7_wayOf rfl ?_
  refine Wf.sPI tkX7_wayOf rfl k150 ?_
  refine Wf.sAl tkX7_wayOf rfl rfl rfl ?_
  refine Wf.sIl tkX7_wayOf rfl rfl ?_
  refine Wf.sCv (as := [.int n]) (rest := []) tkX7_wayOf rfl rfl k150 rfl ?_
  refine hD n _ _ hJ1.2.1 hJ1.2.2.2 (fun M2 hJ2 => ?_)
  have hJ2' := Jv_tr hJ1 hJ2 (by decide)
  have k150 : kk M2 150 7 = true := kk_ok hJ2.2.1 rfl
  have k153 : kk M2 153 9 = true := kk_ok hJ2.2.1 rfl
  have k161 : kk M2 161 9 = true := kk_ok hJ2.2.1 rfl
  have r15 : mR M2 150 15 = 153 := List.mem_singleton.mp (hJ2.2.1.2.2.1 150 15 (by decide))
  have r25 : mR M2 150 25 = 161 := List.mem_singleton.mp (hJ2.2.1.2.2.1 150 25 (by decide))
  have m153 : (mK M2 153).2 = 202 := by rw [hJ2.2.1.2.1 153 (by decide)]; rfl
  have m161 : (mK M2 161).2 = 25 := by rw [hJ2.2.1.2.1 161 (by decide)]; rfl
  obtain ⟨to, hto, eto⟩ := wk_b (j := 45 + 2 * W + 1) hR hJ2.2.1 (by omega) (by omega)
  refine Wf.sAl tkX7_wayOf rfl rfl rfl ?_
  refine Wf.sAl tkX7_wayOf rfl rfl rfl ?_
  refine Wf.sG tkX7_wayOf rfl k150 ?_
  show Wf l X uX7_wayOf (d + 4) true _ 15 _ [.ref (mR M2 150 15), .ref 150] M2 kr
  rw [r15]
  refine Wf.sIc tkX7_wayOf rfl ?_
  refine Wf.sIc tkX7_wayOf rfl ?_
  refine Wf.sIl tkX7_wayOf rfl rfl ?_
  refine Wf.s2 (x := 2) (y := nI W) tkX7_wayOf rfl ?_
  refine Wf.s2 (x := 45) (y := 2 * nI W) tkX7_wayOf rfl ?_
  refine Wf.sIc tkX7_wayOf rfl ?_
  refine Wf.s2 (x := 45 + 2 * nI W) (y := 1) tkX7_wayOf rfl ?_
  refine Wf.sIal (j := 45 + 2 * W + 1) tkX7_wayOf rfl k153 ⟨by rw [wk_i hW, nI_1], by omega, by rw [m153]; omega⟩ ?_
  rw [eto]
  refine Wf.sAl tkX7_wayOf rfl rfl rfl ?_
  refine Wf.sG tkX7_wayOf rfl k150 ?_
  show Wf l X uX7_wayOf (d + 4) true _ 28 _ [.ref (mR M2 150 25), .int (nI to), .ref 150] M2 kr
  rw [r25]
  refine Wf.sIc tkX7_wayOf rfl ?_
  refine Wf.sIal (j := 24) tkX7_wayOf rfl k161 ⟨by decide, by decide, by rw [m161]; decide⟩ ?_
  refine Wf.sCv (as := [.int (nI to), .int (mI M2 161 24)]) (rest := []) tkX7_wayOf rfl rfl k150 rfl ?_
  obtain ⟨hWd, hDp⟩ := wd_of hR.1 hR.2.1 hJ2.2.1
  refine ly_ev (d := d) hR.2.2.1 hJ2.2.1 hJ2.2.2.2 hWd hDp hto (fun M3 hJ3 hI3 hF3 => ?_)
  have hJ3' := Jv_tr hJ2' hJ3 (by decide)
  have k150 : kk M3 150 7 = true := kk_ok hJ3.2.1 rfl
  have k153 : kk M3 153 9 = true := kk_ok hJ3.2.1 rfl
  have k164 : kk M3 164 9 = true := kk_ok hJ3.2.1 rfl
  have r15 : mR M3 150 15 = 153 := List.mem_singleton.mp (hJ3.2.1.2.2.1 150 15 (by decide))
  have r33 : mR M3 150 33 = 164 := List.mem_singleton.mp (hJ3.2.1.2.2.1 150 33 (by decide))
  have m153 : (mK M3 153).2 = 202 := by rw [hJ3.2.1.2.1 153 (by decide)]; rfl
  have m164 : (mK M3 164).2 = 20 := by rw [hJ3.2.1.2.1 164 (by decide)]; rfl
  obtain ⟨fr, hfr, efr⟩ := wk_b (j := 45 + 2 * W) hR hJ3.2.1 (by omega) (by omega)
  refine Wf.sAl tkX7_wayOf rfl rfl rfl ?_
  refine Wf.sG tkX7_wayOf rfl k150 ?_
  show Wf l X uX7_wayOf (d + 4) true _ 38 _ [.ref (mR M3 150 33)] M3 kr
  rw [r33]
  refine Wf.sAl tkX7_wayOf rfl rfl rfl ?_
  refine Wf.sG tkX7_wayOf rfl k150 ?_
  show Wf l X uX7_wayOf (d + 4) true _ 42 _ [.ref (mR M3 150 15), .ref 164] M3 kr
  rw [r15]
  refine Wf.sIc tkX7_wayOf rfl ?_
  refine Wf.sIc tkX7_wayOf rfl ?_
  refine Wf.sIl tkX7_wayOf rfl rfl ?_
  refine Wf.s2 (x := 2) (y := nI W) tkX7_wayOf rfl ?_
  refine Wf.s2 (x := 45) (y := 2 * nI W) tkX7_wayOf rfl ?_
  refine Wf.sIal (j := 45 + 2 * W) tkX7_wayOf rfl k153 ⟨wk_i hW, by omega, by rw [m153]; omega⟩ ?_
  rw [efr]
  refine Wf.sIal (j := fr) tkX7_wayOf rfl k164 ⟨rfl, by omega, by rw [m164]; exact hfr⟩ ?_
  refine Wf.sIs tkX7_wayOf rfl rfl ?_
  refine Wf.sIl tkX7_wayOf rfl rfl ?_
  refine Wf.sIc tkX7_wayOf rfl ?_
  have cb := hI3.1 fr hfr
  refine Wf.sCm (x := mI M3 164 fr) (y := 100000000) tkX7_wayOf rfl (fun z => ?_) (fun z => ?_)
  · refine Wf.sIl tkX7_wayOf rfl rfl ?_
    refine Wf.sIr tkX7_wayOf rfl (h M2 M3 to fr _ hJ2.2.1 hJ3' hJ3 hI3 hF3 hto hfr efr (Or.inr ⟨rfl, ?_⟩))
    have z : ¬ mI M3 164 fr = 100000000 := z
    unfold cw at cb ⊢
    have eM : (100000000 : Int32).toInt = 100000000 := by decide
    have q : (mI M3 164 fr).toInt ≠ 100000000 := fun q => z (Int32.toInt_inj.mp (q.trans eM.symm))
    omega
  · refine Wf.sIc tkX7_wayOf rfl ?_
    refine Wf.sGo tkX7_wayOf rfl ?_
    exact Wf.sIr tkX7_wayOf rfl (h M2 M3 to fr _ hJ2.2.1 hJ3' hJ3 hI3 hF3 hto hfr efr (Or.inl rfl))
set_option maxRecDepth 20000 in
theorem wa_loop {M2 M3 : Mm} {to i : Nat} {w1 n1 c0 : Int32} {b : Nat × Nat} (hR : wyR R) (hI2 : Iv (mkP R) M2) (hJ : lyJ R e M2 M3) (hL : lyI M2 (mI M2 161 24) to M3) (hF : lyF M2 (mI M2 161 24) M3) (hto : to < 20) (hi : i < 1000) (h : ∀ r : Int32, kr (some (.int r)) M3) : ∀ dn, dn ≤ i → ∀ k, k < 20 → cw M3 k < 100000000 → (i : Int) - (dn : Int) < cw M3 k % 1000 → ∀ zs : Ls, (zs = [] ∨ ∃ z : Int32, zs = [(7, .int z)]) → Wf l X uX7_wayAt (d + 6) true b 85 ([(0, .ref 150), (1, .int w1), (2, .int n1), (3, .int (nI i)), (4, .int c0), (5, .int (nI k)), (6, .int (nI dn))] ++ zs) [] M3 kr := by
  obtain ⟨hWd, hDp⟩ := wd_of hR.1 hR.2.1 hI2
  have k150 : kk M3 150 7 = true := kk_ok hJ.2.1 rfl
  have k164 : kk M3 164 9 = true := kk_ok hJ.2.1 rfl
  have k161 : kk M3 161 9 = true := kk_ok hJ.2.1 rfl
  have r33 : mR M3 150 33 = 164 := List.mem_singleton.mp (hJ.2.1.2.2.1 150 33 (by decide))
  have r25 : mR M3 150 25 = 161 := List.mem_singleton.mp (hJ.2.1.2.2.1 150 25 (by decide))
  have m164 : (mK M3 164).2 = 20 := by rw [hJ.2.1.2.1 164 (by decide)]; rfl
  have m161 : (mK M3 161).2 = 25 := by rw [hJ.2.1.2.1 161 (by decide)]; rfl
  have ewet : mI M3 161 24 = mI M2 161 24 := (hJ.2.2.1 161 24 rfl).1
  have hw0 : ¬ mI M3 153 0 = 0 := by
    intro z
    rw [(hJ.2.2.1 153 0 rfl).1] at z
    rw [z] at hWd
    exact absurd hWd.1 (by decide)
  have lo : iLo ≤ 0 := by decide
  have hhi : (200000000 : Int) ≤ iHi := by decide
  have kee : ∀ (dn k : Nat) (zs : Ls), (zs = [] ∨ ∃ z : Int32, zs = [(7, .int z)]) → Wf l X uX7_wayAt (d + 6) true b 85 [(0, .ref 150), (1, .int w1), (2, .int n1), (3, .int (nI i)), (4, .int c0), (5, .int (nI k)), (6, .int (nI dn))] [] M3 kr → Wf l X uX7_wayAt (d + 6) true b 85 ([(0, .ref 150), (1, .int w1), (2, .int n1), (3, .int (nI i)), (4, .int c0), (5, .int (nI k)), (6, .int (nI dn))] ++ zs) [] M3 kr := fun dn k zs _ hW => Wf.sub (fun x hx => List.mem_append_left zs hx) hW
  /- one cell: its step is found -/
  have cell : ∀ dn k, dn ≤ i → k < 20 → cw M3 k < 100000000 → 1 ≤ cw M3 k % 1000 → (∀ s, s < 4 → 0 ≤ (fS M2 k s).toInt → cw M3 (fS M2 k s).toInt.toNat + 1 + cK (mI M2 161 24) k = cw M3 k → Wf l X uX7_wayAt (d + 6) true b 150 [(0, .ref 150), (1, .int w1), (2, .int n1), (3, .int (nI i)), (4, .int c0), (5, .int (nI k)), (6, .int (nI dn)), (7, .int (nI s))] [] M3 kr) → Wf l X uX7_wayAt (d + 6) true b 91 [(0, .ref 150), (1, .int w1), (2, .int n1), (3, .int (nI i)), (4, .int c0), (5, .int (nI k)), (6, .int (nI dn))] [] M3 kr := by
    intro dn k hdn hk hc hm hfin
    have hkto : k ≠ to := by
      intro z
      subst z
      rcases hL.2.2 with q | ⟨q, -⟩
      · have := cK_b (mI M2 161 24) k
        omega
      · omega
    obtain ⟨hkn, s0, hs0, hf0, hle⟩ := hL.2.1 k hk hkto hc
    have b0 := hL.1 k hk
    have cKb := cK_b (mI M2 161 24) k
    have fb : ∀ s, fS M2 k s = -2 ∨ (0 ≤ (fS M2 k s).toInt ∧ (fS M2 k s).toInt ≤ 19) := fun s => sfI_b hWd hDp
    have heq : cw M3 (fS M2 k s0).toInt.toNat + 1 + cK (mI M2 161 24) k = cw M3 k := by
      have hfb : 0 ≤ (fS M2 k s0).toInt ∧ (fS M2 k s0).toInt ≤ 19 := by
        rcases fb s0 with q | q
        · have e2 : (-2 : Int32).toInt = -2 := by decide
          rw [q, e2] at hf0
          omega
        · exact q
      have b1 := hL.1 _ (show (fS M2 k s0).toInt.toNat < 20 by omega)
      rcases hF k s0 hkn hs0 with q | q | q
      · have e2 : (-2 : Int32).toInt = -2 := by decide
        rw [q, e2] at hf0
        omega
      · omega
      · omega
    have srch9 : ∀ s, s ≤ s0 → Wf l X uX7_wayAt (d + 6) true b 94 [(0, .ref 150), (1, .int w1), (2, .int n1), (3, .int (nI i)), (4, .int c0), (5, .int (nI k)), (6, .int (nI dn)), (7, .int (nI s))] [] M3 kr := by
      refine dwn _ s0 ?_ ?_
      · have hs4 : s0 < 4 := by omega
        refine Wf.sAl tkX7_wayAt rfl rfl rfl ?_
        refine Wf.sIl tkX7_wayAt rfl rfl ?_
        refine Wf.sIl tkX7_wayAt rfl rfl ?_
        refine Wf.sCv (as := [.int (nI k), .int (nI s0)]) (rest := []) tkX7_wayAt rfl rfl k150 rfl ?_
        refine k_sf (d := d + 3) hJ.2.1 hw0 ?_
        rw [ly_sf hJ]
        refine Wf.sIf tkX7_wayAt rfl (fun z => ?_) (fun z => ?_)
        · have z : fS M2 k s0 < 0 := z
          rw [Int32.lt_iff_toInt_lt] at z
          have e0 : (0 : Int32).toInt = 0 := rfl
          omega
        have hf : 0 ≤ (fS M2 k s0).toInt ∧ (fS M2 k s0).toInt ≤ 19 := by
          rcases fb s0 with q | q
          · have z : ¬ fS M2 k s0 < 0 := z
            rw [q] at z
            exact absurd (by decide) z
          · exact q
        have eo : fS M2 k s0 = nI (fS M2 k s0).toInt.toNat := nI_at (by omega) (by omega)
        have hn20 : (fS M2 k s0).toInt.toNat < 20 := by omega
        have cb := hL.1 _ hn20
        have ev : (mI M3 164 (fS M2 k s0).toInt.toNat + 1 + coI (mI M2 161 24) (nI k)).toInt = cw M3 (fS M2 k s0).toInt.toNat + 1 + cK (mI M2 161 24) k := by
          have e1 : (1 : Int32).toInt = 1 := rfl
          unfold cw at cb ⊢
          unfold cK at cKb ⊢
          have a1 : (mI M3 164 (fS M2 k s0).toInt.toNat + 1).toInt = (mI M3 164 (fS M2 k s0).toInt.toNat).toInt + 1 := add_i (by omega) (by omega)
          rw [add_i (by rw [a1]; omega) (by rw [a1]; omega), a1]
        refine Wf.sAl tkX7_wayAt rfl rfl rfl ?_
        refine Wf.sG tkX7_wayAt rfl k150 ?_
        show Wf l X uX7_wayAt (d + 6) true b 109 _ [.ref (mR M3 150 33)] M3 kr
        rw [r33]
        refine Wf.sAl tkX7_wayAt rfl rfl rfl ?_
        refine Wf.sIl tkX7_wayAt rfl rfl ?_
        refine Wf.sIl tkX7_wayAt rfl rfl ?_
        refine Wf.sCv (as := [.int (nI k), .int (nI s0)]) (rest := [.ref 164]) tkX7_wayAt rfl rfl k150 rfl ?_
        refine k_sf (d := d + 3) hJ.2.1 hw0 ?_
        rw [ly_sf hJ]
        refine Wf.sIal (i := fS M2 k s0) (j := (fS M2 k s0).toInt.toNat) tkX7_wayAt rfl k164 ⟨eo, by omega, by rw [m164]; exact hn20⟩ ?_
        refine Wf.sIc tkX7_wayAt rfl ?_
        refine Wf.s2 tkX7_wayAt rfl ?_
        refine Wf.sAl tkX7_wayAt rfl rfl rfl ?_
        refine Wf.sIl tkX7_wayAt rfl rfl ?_
        refine Wf.sAl tkX7_wayAt rfl rfl rfl ?_
        refine Wf.sG tkX7_wayAt rfl k150 ?_
        show Wf l X uX7_wayAt (d + 6) true b 127 _ [.ref (mR M3 150 25), .int (nI k), .ref 150, .int (mI M3 164 (fS M2 k s0).toInt.toNat + 1)] M3 kr
        rw [r25]
        refine Wf.sIc tkX7_wayAt rfl ?_
        refine Wf.sIal (j := 24) tkX7_wayAt rfl k161 ⟨by decide, by decide, by rw [m161]; decide⟩ ?_
        rw [ewet]
        refine Wf.sCv (as := [.int (nI k), .int (mI M2 161 24)]) (rest := [.int (mI M3 164 (fS M2 k s0).toInt.toNat + 1)]) tkX7_wayAt rfl rfl k150 rfl ?_
        refine k_cof (d := d + 4) ?_
        refine Wf.s2 (x := mI M3 164 (fS M2 k s0).toInt.toNat + 1) (y := coI (mI M2 161 24) (nI k)) tkX7_wayAt rfl ?_
        refine Wf.sAl tkX7_wayAt rfl rfl rfl ?_
        refine Wf.sG tkX7_wayAt rfl k150 ?_
        show Wf l X uX7_wayAt (d + 6) true b 138 _ [.ref (mR M3 150 33), .int (mI M3 164 (fS M2 k s0).toInt.toNat + 1 + coI (mI M2 161 24) (nI k))] M3 kr
        rw [r33]
        refine Wf.sIl tkX7_wayAt rfl rfl ?_
        refine Wf.sIal (j := k) tkX7_wayAt rfl k164 ⟨rfl, by omega, by rw [m164]; exact hk⟩ ?_
        refine Wf.sCm (x := mI M3 164 (fS M2 k s0).toInt.toNat + 1 + coI (mI M2 161 24) (nI k)) (y := mI M3 164 k) tkX7_wayAt rfl (fun z => ?_) (fun z => ?_)
        · refine hfin s0 hs4 hf.1 ?_
          have z := congrArg Int32.toInt (show mI M3 164 (fS M2 k s0).toInt.toNat + 1 + coI (mI M2 161 24) (nI k) = mI M3 164 k from z)
          rw [ev] at z
          exact z
        · exact absurd (Int32.toInt_inj.mp (ev.trans heq)) z
      · intro s hs ih
        have hs4 : s < 4 := by omega
        refine Wf.sAl tkX7_wayAt rfl rfl rfl ?_
        refine Wf.sIl tkX7_wayAt rfl rfl ?_
        refine Wf.sIl tkX7_wayAt rfl rfl ?_
        refine Wf.sCv (as := [.int (nI k), .int (nI s)]) (rest := []) tkX7_wayAt rfl rfl k150 rfl ?_
        refine k_sf (d := d + 3) hJ.2.1 hw0 ?_
        rw [ly_sf hJ]
        refine Wf.sIf tkX7_wayAt rfl (fun z => ?_) (fun z => ?_)
        · refine Wf.sInc tkX7_wayAt rfl rfl rfl ?_
          refine Wf.sGo tkX7_wayAt rfl ?_
          rw [nI_1]
          exact ih
        have hf : 0 ≤ (fS M2 k s).toInt ∧ (fS M2 k s).toInt ≤ 19 := by
          rcases fb s with q | q
          · have z : ¬ fS M2 k s < 0 := z
            rw [q] at z
            exact absurd (by decide) z
          · exact q
        have eo : fS M2 k s = nI (fS M2 k s).toInt.toNat := nI_at (by omega) (by omega)
        have hn20 : (fS M2 k s).toInt.toNat < 20 := by omega
        have cb := hL.1 _ hn20
        have ev : (mI M3 164 (fS M2 k s).toInt.toNat + 1 + coI (mI M2 161 24) (nI k)).toInt = cw M3 (fS M2 k s).toInt.toNat + 1 + cK (mI M2 161 24) k := by
          have e1 : (1 : Int32).toInt = 1 := rfl
          unfold cw at cb ⊢
          unfold cK at cKb ⊢
          have a1 : (mI M3 164 (fS M2 k s).toInt.toNat + 1).toInt = (mI M3 164 (fS M2 k s).toInt.toNat).toInt + 1 := add_i (by omega) (by omega)
          rw [add_i (by rw [a1]; omega) (by rw [a1]; omega), a1]
        refine Wf.sAl tkX7_wayAt rfl rfl rfl ?_
        refine Wf.sG tkX7_wayAt rfl k150 ?_
        show Wf l X uX7_wayAt (d + 6) true b 109 _ [.ref (mR M3 150 33)] M3 kr
        rw [r33]
        refine Wf.sAl tkX7_wayAt rfl rfl rfl ?_
        refine Wf.sIl tkX7_wayAt rfl rfl ?_
        refine Wf.sIl tkX7_wayAt rfl rfl ?_
        refine Wf.sCv (as := [.int (nI k), .int (nI s)]) (rest := [.ref 164]) tkX7_wayAt rfl rfl k150 rfl ?_
        refine k_sf (d := d + 3) hJ.2.1 hw0 ?_
        rw [ly_sf hJ]
        refine Wf.sIal (i := fS M2 k s) (j := (fS M2 k s).toInt.toNat) tkX7_wayAt rfl k164 ⟨eo, by omega, by rw [m164]; exact hn20⟩ ?_
        refine Wf.sIc tkX7_wayAt rfl ?_
        refine Wf.s2 tkX7_wayAt rfl ?_
        refine Wf.sAl tkX7_wayAt rfl rfl rfl ?_
        refine Wf.sIl tkX7_wayAt rfl rfl ?_
        refine Wf.sAl tkX7_wayAt rfl rfl rfl ?_
        refine Wf.sG tkX7_wayAt rfl k150 ?_
        show Wf l X uX7_wayAt (d + 6) true b 127 _ [.ref (mR M3 150 25), .int (nI k), .ref 150, .int (mI M3 164 (fS M2 k s).toInt.toNat + 1)] M3 kr
        rw [r25]
        refine Wf.sIc tkX7_wayAt rfl ?_
        refine Wf.sIal (j := 24) tkX7_wayAt rfl k161 ⟨by decide, by decide, by rw [m161]; decide⟩ ?_
        rw [ewet]
        refine Wf.sCv (as := [.int (nI k), .int (mI M2 161 24)]) (rest := [.int (mI M3 164 (fS M2 k s).toInt.toNat + 1)]) tkX7_wayAt rfl rfl k150 rfl ?_
        refine k_cof (d := d + 4) ?_
        refine Wf.s2 (x := mI M3 164 (fS M2 k s).toInt.toNat + 1) (y := coI (mI M2 161 24) (nI k)) tkX7_wayAt rfl ?_
        refine Wf.sAl tkX7_wayAt rfl rfl rfl ?_
        refine Wf.sG tkX7_wayAt rfl k150 ?_
        show Wf l X uX7_wayAt (d + 6) true b 138 _ [.ref (mR M3 150 33), .int (mI M3 164 (fS M2 k s).toInt.toNat + 1 + coI (mI M2 161 24) (nI k))] M3 kr
        rw [r33]
        refine Wf.sIl tkX7_wayAt rfl rfl ?_
        refine Wf.sIal (j := k) tkX7_wayAt rfl k164 ⟨rfl, by omega, by rw [m164]; exact hk⟩ ?_
        refine Wf.sCm (x := mI M3 164 (fS M2 k s).toInt.toNat + 1 + coI (mI M2 161 24) (nI k)) (y := mI M3 164 k) tkX7_wayAt rfl (fun z => ?_) (fun z => ?_)
        · refine hfin s hs4 hf.1 ?_
          have z := congrArg Int32.toInt (show mI M3 164 (fS M2 k s).toInt.toNat + 1 + coI (mI M2 161 24) (nI k) = mI M3 164 k from z)
          rw [ev] at z
          exact z
        · refine Wf.sInc tkX7_wayAt rfl rfl rfl ?_
          refine Wf.sGo tkX7_wayAt rfl ?_
          rw [nI_1]
          exact ih
    refine Wf.sIc tkX7_wayAt rfl ?_
    refine Wf.sIs tkX7_wayAt rfl rfl ?_
    exact srch9 0 (Nat.zero_le _)
  refine dwn _ i ?_ ?_
  · intro k hk hc hm zs hz
    refine kee i k zs hz ?_
    refine Wf.sIl tkX7_wayAt rfl rfl ?_
    refine Wf.sIl tkX7_wayAt rfl rfl ?_
    refine Wf.sCm (x := nI i) (y := nI i) tkX7_wayAt rfl (fun z => absurd z (fun z => Int.lt_irrefl _ (Int32.lt_iff_toInt_lt.mp z))) (fun _ => ?_)
    refine cell i k (Nat.le_refl _) hk hc (by omega) (fun s hs hf heq => ?_)
    refine Wf.sIl tkX7_wayAt rfl rfl ?_
    refine Wf.sIl tkX7_wayAt rfl rfl ?_
    refine Wf.sCm (x := nI i) (y := nI i) tkX7_wayAt rfl (fun z => absurd rfl z) (fun _ => ?_)
    refine Wf.sIl tkX7_wayAt rfl rfl ?_
    exact Wf.sIr tkX7_wayAt rfl (h _)
  · intro dn hdn ih k hk hc hm zs hz
    refine kee dn k zs hz ?_
    refine Wf.sIl tkX7_wayAt rfl rfl ?_
    refine Wf.sIl tkX7_wayAt rfl rfl ?_
    refine Wf.sCm (x := nI dn) (y := nI i) tkX7_wayAt rfl (fun z => absurd (Int32.not_le.mpr z) (fun q => q (nI_le (by omega) (by omega)))) (fun _ => ?_)
    refine cell dn k (by omega) hk hc (by omega) (fun s hs hf heq => ?_)
    refine Wf.sIl tkX7_wayAt rfl rfl ?_
    refine Wf.sIl tkX7_wayAt rfl rfl ?_
    have hne : ¬ nI dn = nI i := by
      intro z
      have := congrArg Int32.toInt z
      rw [nI_toInt (by omega), nI_toInt (by omega)] at this
      omega
    refine Wf.sCm (x := nI dn) (y := nI i) tkX7_wayAt rfl (fun _ => ?_) (fun z => absurd z hne)
    refine Wf.sAl tkX7_wayAt rfl rfl rfl ?_
    refine Wf.sIl tkX7_wayAt rfl rfl ?_
    refine Wf.sIl tkX7_wayAt rfl rfl ?_
    refine Wf.sCv (as := [.int (nI k), .int (nI s)]) (rest := []) tkX7_wayAt rfl rfl k150 rfl ?_
    refine k_sf (d := d + 3) hJ.2.1 hw0 ?_
    rw [ly_sf hJ]
    have hfb : 0 ≤ (fS M2 k s).toInt ∧ (fS M2 k s).toInt ≤ 19 := by
      have fb : fS M2 k s = -2 ∨ (0 ≤ (fS M2 k s).toInt ∧ (fS M2 k s).toInt ≤ 19) := sfI_b hWd hDp
      rcases fb with q | q
      · have e2 : (-2 : Int32).toInt = -2 := by decide
        rw [q, e2] at hf
        omega
      · exact q
    have eo : fS M2 k s = nI (fS M2 k s).toInt.toNat := nI_at (by omega) (by omega)
    have cKb := cK_b (mI M2 161 24) k
    have b1 := hL.1 _ (show (fS M2 k s).toInt.toNat < 20 by omega)
    rw [eo]
    refine Wf.sIs tkX7_wayAt rfl rfl ?_
    refine Wf.sInc tkX7_wayAt rfl rfl rfl ?_
    refine Wf.sGo tkX7_wayAt rfl ?_
    rw [nI_1]
    exact ih (fS M2 k s).toInt.toNat (by omega) (by omega) (by omega) [(7, .int (nI s))] (Or.inr ⟨_, rfl⟩)
theorem rem1000 {x : Int32} (h : 0 ≤ x.toInt) : (x - x / 1000 * 1000).toInt = x.toInt % 1000 := by
  have e : (1000 : Int32).toInt = 1000 := by decide
  rw [rem_i h (by rw [e]; decide), e]
  exact Int.tmod_eq_emod_of_nonneg h
set_option maxRecDepth 20000 in
theorem wa_ev {w1 n1 i1 : Int32} (hR : wyR R) (hO : wyO l X R e (d + 5)) (hD : wyD l X R e (d + 4)) (hI : Iv (mkP R) M) (he : eO e M) (h : ∀ (r : Int32) (M' : Mm), Jv (mkP R) [(150, 0, 0), (150, 11, 11), (150, 26, 26), (160, 0, 4), (161, 0, 24), (164, 0, 19)] (M, e) M' → kr (some (.int r)) M') : Ev l X uX7_wayAt (d + 6) true 0 0 [.ref 150, .int w1, .int n1, .int i1] M kr := by
  have k150 : kk M 150 7 = true := kk_ok hI rfl
  refine Ev.of (by decide) (Nat.le_of_ble_eq_true rfl) ?_
  have hJ0 : Jv (mkP R) [(150, 0, 0), (150, 11, 11), (150, 26, 26), (160, 0, 4), (161, 0, 24), (164, 0, 19)] (M, e) M := Jv.rf hI he
  have noo : ∀ (Mx : Mm) (pc : Nat) (a : Int32) (ls : Ls), Jv (mkP R) [(150, 0, 0), (150, 11, 11), (150, 26, 26), (160, 0, 4), (161, 0, 24), (164, 0, 19)] (M, e) Mx → lo (tbX7_wayAt l X (d + 5)) pc = oCv l X (d + 5) pc uX7_no 7 1 → lo (tbX7_wayAt l X (d + 5)) (pc + 3) = oIr → Wf l X uX7_wayAt (d + 6) true (mC M + 0, mS M + 0) pc ls [.int a, .ref 150] Mx kr := by
    intro Mx pc a ls hJx h1 h2
    have k150 : kk Mx 150 7 = true := kk_ok hJx.2.1 rfl
    refine Wf.sCv (as := [.int a]) (rest := []) tkX7_wayAt h1 rfl k150 rfl ?_
    refine hO.2.1 a Mx _ hJx.2.1 hJx.2.2.2 (fun M' hJ' => ?_)
    exact Wf.sIr tkX7_wayAt h2 (h _ M' (Jv_tr hJx hJ' (by decide)))
  refine Wf.sAl tkX7_wayAt rfl rfl rfl ?_
  refine Wf.sCv (as := []) (rest := []) tkX7_wayAt rfl rfl k150 rfl ?_
  refine hO.1 M _ hI he (fun M1 hJ1 => ?_)
  have hJ1' := Jv_tr hJ0 hJ1 (by decide)
  have k150 : kk M1 150 7 = true := kk_ok hJ1.2.1 rfl
  refine Wf.sAl tkX7_wayAt rfl rfl rfl ?_
  refine Wf.sIl tkX7_wayAt rfl rfl ?_
  refine Wf.sCv (as := [.int w1]) (rest := []) tkX7_wayAt rfl rfl k150 rfl ?_
  refine hO.2.2 w1 M1 _ hJ1.2.1 hJ1.2.2.2 (fun M2 hJ2 => ?_) (fun M2 hJ2 hw1 hw2 => ?_)
  · refine Wf.sIf tkX7_wayAt rfl (fun z => absurd rfl z) (fun _ => ?_)
    refine Wf.sAl tkX7_wayAt rfl rfl rfl ?_
    refine Wf.sIc tkX7_wayAt rfl ?_
    exact noo M2 14 _ _ (Jv_tr hJ1' hJ2 (by decide)) rfl rfl
  have hJ2' := Jv_tr hJ1' hJ2 (by decide)
  have k150 : kk M2 150 7 = true := kk_ok hJ2.2.1 rfl
  refine Wf.sIf tkX7_wayAt rfl (fun _ => ?_) (fun z => absurd z (by decide))
  refine Wf.sIl tkX7_wayAt rfl rfl ?_
  refine Wf.sIc tkX7_wayAt rfl ?_
  refine Wf.sIc tkX7_wayAt rfl ?_
  refine Wf.sCs (as := [.int n1, .int 1, .int 60]) (rest := []) tkX7_wayAt rfl rfl rfl ?_
  refine k_inB ?_
  cases b1 : inB n1 1 60 with
  | false =>
    refine Wf.sIf tkX7_wayAt rfl (fun z => absurd rfl z) (fun _ => ?_)
    refine Wf.sAl tkX7_wayAt rfl rfl rfl ?_
    refine Wf.sIc tkX7_wayAt rfl ?_
    exact noo M2 30 _ _ hJ2' rfl rfl
  | true =>
  refine Wf.sIf tkX7_wayAt rfl (fun _ => ?_) (fun z => absurd z (by decide))
  have ew : w1 = nI w1.toInt.toNat := nI_at (by omega) (by omega)
  refine Wf.sAl tkX7_wayAt rfl rfl rfl ?_
  refine Wf.sIl tkX7_wayAt rfl rfl ?_
  refine Wf.sIl tkX7_wayAt rfl rfl ?_
  refine Wf.sCv (as := [.int w1, .int n1]) (rest := []) tkX7_wayAt rfl rfl k150 rfl ?_
  have way : Ev l X uX7_wayOf (d + 5) true 0 0 [.ref 150, .int (nI w1.toInt.toNat), .int n1] M2 (fun r M' => Wf l X uX7_wayAt (d + 6) true (mC M + 0, mS M + 0) (37 + 3) [(0, .ref 150), (1, .int w1), (2, .int n1), (3, .int i1)] (r.toList ++ []) M' kr) := by
    refine wo_ev (d := d + 1) hR hD hJ2.2.1 hJ2.2.2.2 (by omega) (fun M3 M4 to fr c hI3 hJ4 hy hL hF hto hfr efr hc => ?_)
    have hJ4' := Jv_tr hJ2' hJ4 (by decide)
    have k150 : kk M4 150 7 = true := kk_ok hJ4.2.1 rfl
    have k153 : kk M4 153 9 = true := kk_ok hJ4.2.1 rfl
    have r15 : mR M4 150 15 = 153 := List.mem_singleton.mp (hJ4.2.1.2.2.1 150 15 (by decide))
    have m153 : (mK M4 153).2 = 202 := by rw [hJ4.2.1.2.1 153 (by decide)]; rfl
    refine Wf.sIs tkX7_wayAt rfl rfl ?_
    refine Wf.sIl tkX7_wayAt rfl rfl ?_
    refine Wf.sIf tkX7_wayAt rfl (fun _ => ?_) (fun hc0 => ?_)
    · refine Wf.sAl tkX7_wayAt rfl rfl rfl ?_
      refine Wf.sIc tkX7_wayAt rfl ?_
      exact noo M4 65 _ _ hJ4' rfl rfl
    have hc0 : ¬ c < 0 := hc0
    have hc1 : c = mI M4 164 fr ∧ cw M4 fr < 100000000 := by
      rcases hc with z | z
      · rw [z] at hc0
        exact absurd (by decide) hc0
      · exact z
    have cb := hL.1 fr hfr
    have ec : c.toInt = cw M4 fr := by rw [hc1.1]; rfl
    refine Wf.sIl tkX7_wayAt rfl rfl ?_
    refine Wf.sIc tkX7_wayAt rfl ?_
    refine Wf.sIl tkX7_wayAt rfl rfl ?_
    refine Wf.sIc tkX7_wayAt rfl ?_
    refine Wf.stp1 tkX7_wayAt (o := o2d 54 (fun x y => x - x / y * y)) rfl ⟨by decide, ?_⟩
    refine Wf.sIc tkX7_wayAt rfl ?_
    refine Wf.s2 (x := c - c / 1000 * 1000) (y := 1) tkX7_wayAt rfl ?_
    refine Wf.sCs (as := [.int i1, .int 0, .int (c - c / 1000 * 1000 - 1)]) (rest := []) tkX7_wayAt rfl rfl rfl ?_
    refine k_inB ?_
    cases b2 : inB i1 0 (c - c / 1000 * 1000 - 1) with
    | false =>
      refine Wf.sIf tkX7_wayAt rfl (fun z => absurd rfl z) (fun _ => ?_)
      refine Wf.sAl tkX7_wayAt rfl rfl rfl ?_
      refine Wf.sIc tkX7_wayAt rfl ?_
      exact noo M4 65 _ _ hJ4' rfl rfl
    | true =>
    refine Wf.sIf tkX7_wayAt rfl (fun _ => ?_) (fun z => absurd z (by decide))
    have hi : 0 ≤ i1.toInt ∧ i1.toInt < c.toInt % 1000 := by
      unfold inB at b2
      obtain ⟨q1, q2⟩ := andT b2
      have q1 := of_decide_eq_true q1
      have q2 := of_decide_eq_true q2
      rw [Int32.lt_iff_toInt_lt] at q1 q2
      have e0 : (0 : Int32).toInt = 0 := rfl
      have e1 : (1 : Int32).toInt = 1 := rfl
      have er := rem1000 (x := c) (by omega)
      have lo : iLo ≤ -1 := by decide
      have hhi : (1000 : Int) ≤ iHi := by decide
      rw [sub_i (by rw [er, e1]; omega) (by rw [er, e1]; omega), er, e1] at q2
      omega
    have ei : i1 = nI i1.toInt.toNat := nI_at (by omega) (by omega)
    refine Wf.sAl tkX7_wayAt rfl rfl rfl ?_
    refine Wf.sG tkX7_wayAt rfl k150 ?_
    show Wf l X uX7_wayAt (d + 6) true _ 73 _ [.ref (mR M4 150 15)] M4 kr
    rw [r15]
    refine Wf.sIc tkX7_wayAt rfl ?_
    refine Wf.sIc tkX7_wayAt rfl ?_
    refine Wf.sIl tkX7_wayAt rfl rfl ?_
    show Wf l X uX7_wayAt (d + 6) true _ 77 _ [.int w1, .int 2, .int 45, .ref 153] M4 kr
    refine Wf.s2 (x := 2) (y := w1) tkX7_wayAt rfl ?_
    refine Wf.s2 (x := 45) (y := 2 * w1) tkX7_wayAt rfl ?_
    refine Wf.sIal (j := 45 + 2 * w1.toInt.toNat) tkX7_wayAt rfl k153 ⟨by rw [← wk_i (W := w1.toInt.toNat) (by omega), ← ew], by omega, by rw [m153]; omega⟩ ?_
    rw [efr]
    refine Wf.sIs tkX7_wayAt rfl rfl ?_
    refine Wf.sIc tkX7_wayAt rfl ?_
    refine Wf.sIs tkX7_wayAt rfl rfl ?_
    have hl := wa_loop (l := l) (X := X) (d := d) (w1 := w1) (n1 := n1) (c0 := c) (b := (mC M + 0, mS M + 0)) (i := i1.toInt.toNat) hR hI3 hy hL hF hto (by omega) (fun r => h r M4 hJ4') 0 (Nat.zero_le _) fr hfr hc1.2 (by omega) [] (Or.inl rfl)
    rw [← ei] at hl
    exact hl
  rw [← ew] at way
  exact way
theorem vh_wayAt (hR : wyR R) (d : Nat) (hO : wyO l X R e (d + 6)) (hD : wyD l X R e (d + 5)) : Vc l X U0 (mkP R) e (d + 7) ((238, [(2, 0, 0, [150]), (0, iLo, iHi, []), (0, iLo, iHi, []), (0, iLo, iHi, [])], []), [(150, 0, 0), (150, 11, 11), (150, 26, 26), (160, 0, 4), (161, 0, 24), (164, 0, 19)], [(some (0, iLo, iHi, []), [], [])]) := by
  intro av M kr hI he hb hf hr
  obtain ⟨v, t, rfl, hv, ht⟩ := gbs_1 hb
  obtain ⟨v2, t, rfl, hv2, ht⟩ := gbs_1 ht
  obtain ⟨v3, t, rfl, hv3, ht⟩ := gbs_1 ht
  obtain ⟨v4, t, rfl, hv4, ht⟩ := gbs_1 ht
  obtain rfl := gbs_0 ht
  obtain rfl := gb_r1 hv
  obtain ⟨w1, rfl, -, -⟩ := gb_i hv2
  obtain ⟨n1, rfl, -, -⟩ := gb_i hv3
  obtain ⟨i1, rfl, -, -⟩ := gb_i hv4
  exact wa_ev (d := d + 1) hR hO hD hI he (fun r M' hJ' => hr _ M' hJ' gps_any)
end WAY
end
section
theorem i_eq {x y : Int32} {n : Int} (h : x.toInt = n) (g : y.toInt = n) : x = y := Int32.toInt_inj.mp (h.trans g.symm)
noncomputable def KwayAt : Con := ((238, [(2, 0, 0, [150]), (0, iLo, iHi, []), (0, iLo, iHi, []), (0, iLo, iHi, [])], []), [(150, 0, 0), (150, 11, 11), (150, 26, 26), (160, 0, 4), (161, 0, 24), (164, 0, 19)], [(some (0, iLo, iHi, []), [], [])])
theorem wr_m1 {av : List Value} {r : Option Value} {M : Mm} (h : gps av r M [(some (0, (-1), (-1), []), [], [])]) : r = some (.int (-1)) := by
  obtain ⟨p, hp, h1, -, -⟩ := h
  obtain rfl := List.mem_singleton.mp hp
  cases r with
  | none => exact h1.elim
  | some v =>
    cases v with
    | int x =>
      have h2 : (0 : Nat) = 0 ∧ (-1 : Int) ≤ x.toInt ∧ x.toInt ≤ -1 := h1
      rw [i_eq (show x.toInt = -1 by omega) (show (-1 : Int32).toInt = -1 by decide)]
    | long x => have := h1.1; cases this
    | ref x => have := h1.1; cases this
    | _ => exact h1.elim
theorem wr_01 {w : Int32} {r : Option Value} {M : Mm} {n : Nat} (h : gps [.ref n, .int w] r M [(some (0, 0, 0, []), [], []), (some (0, 1, 1, []), [(1, 0, 3)], [])]) : r = some (.int 0) ∨ (r = some (.int 1) ∧ 0 ≤ w.toInt ∧ w.toInt ≤ 3) := by
  obtain ⟨p, hp, h1, h2, -⟩ := h
  rcases List.mem_cons.mp hp with rfl | hp
  · cases r with
    | none => exact h1.elim
    | some v =>
      cases v with
      | int x =>
        have h3 : (0 : Nat) = 0 ∧ (0 : Int) ≤ x.toInt ∧ x.toInt ≤ 0 := h1
        exact Or.inl (by rw [i_eq (show x.toInt = 0 by omega) (show (0 : Int32).toInt = 0 by decide)])
      | long x => have := h1.1; cases this
      | ref x => have := h1.1; cases this
      | _ => exact h1.elim
  · obtain rfl := List.mem_singleton.mp hp
    obtain ⟨y, hy, h4, h5⟩ := h2 _ (List.mem_singleton.mpr rfl)
    cases hy
    cases r with
    | none => exact h1.elim
    | some v =>
      cases v with
      | int x =>
        have h3 : (0 : Nat) = 0 ∧ (1 : Int) ≤ x.toInt ∧ x.toInt ≤ 1 := h1
        exact Or.inr ⟨by rw [i_eq (show x.toInt = 1 by omega) (show (1 : Int32).toInt = 1 by decide)], h4, h5⟩
      | long x => have := h1.1; cases this
      | ref x => have := h1.1; cases this
      | _ => exact h1.elim
/-! the reference's wayAt in each table -/
theorem wyR0 : wyR rwt0 := ⟨rfl, rfl, rfl, rfl, fun j h1 h2 => by
  have : j = 45 ∨ j = 46 ∨ j = 47 ∨ j = 48 ∨ j = 49 ∨ j = 50 ∨ j = 51 ∨ j = 52 := by omega
  rcases this with rfl | rfl | rfl | rfl | rfl | rfl | rfl | rfl <;> rfl⟩
set_option maxRecDepth 20000 in
theorem vw0 {l : Launch} {X : Nat × (Nat → Int32)} (d : Nat) : Vc l X U0 Pt0 1 (d + 7) KwayAt := vh_wayAt (R := rwt0) wyR0 d ⟨fun M kr hI he h => vc270 (d + 6) [.ref 150] M kr hI he ⟨⟨rfl, List.mem_singleton.mpr rfl⟩, trivial⟩ (fun f hf => absurd hf List.not_mem_nil) (fun r M' hJ hp => by
  rw [r_none (by decide) hp]
  exact h M' hJ), fun w M kr hI he h => vc273 (d + 6) [.ref 150, .int w] M kr hI he ⟨⟨rfl, List.mem_singleton.mpr rfl⟩, ⟨rfl, i32_lo _, i32_hi _⟩, trivial⟩ (fun f hf => absurd hf List.not_mem_nil) (fun r M' hJ hp => by
  obtain rfl := wr_m1 hp
  exact h M' hJ), fun w M kr hI he h0 h1 => vc370 (d + 5) [.ref 150, .int w] M kr hI he ⟨⟨rfl, List.mem_singleton.mpr rfl⟩, ⟨rfl, i32_lo _, i32_hi _⟩, trivial⟩ (fun f hf => absurd hf List.not_mem_nil) (fun r M' hJ hp => by
  rcases wr_01 hp with rfl | ⟨rfl, h2, h3⟩
  · exact h0 M' hJ
  · exact h1 M' hJ h2 h3)⟩ (fun n M kr hI he h => vc310 (d + 3) [.ref 150, .int n] M kr hI he ⟨⟨rfl, List.mem_singleton.mpr rfl⟩, ⟨rfl, i32_lo _, i32_hi _⟩, trivial⟩ (fun f hf => absurd hf List.not_mem_nil) (fun r M' hJ hp => by
  rw [r_none (by decide) hp]
  exact h M' hJ))
noncomputable def Kc504 : Con := ((238, [(2, 0, 0, [150]), (0, iLo, iHi, []), (0, iLo, iHi, []), (0, iLo, iHi, [])], []), [(150, 0, 0), (150, 11, 11)], [(some (0, (-1), (-1), []), [], [])])
set_option maxRecDepth 20000 in
theorem vc504 {l : Launch} {X : Nat × (Nat → Int32)} {e : Int} (d : Nat) : Vc l X U0 Pt6 e (d + 2) Kc504 :=
  ckf (d := (d + 1)) (Ks := [Kc431, Kc465, Kc433]) (cy := 152) (cd := cdX7_wayAt) (nl := 8) (fuel := 1000) (Hs := []) (by decide +kernel) (by decide +kernel) (fun na b => by rw [← ceX7_wayAt]; exact tkX7_wayAt) (List.forall_mem_cons.mpr ⟨vc431 (d + 1), List.forall_mem_cons.mpr ⟨vc465 d, List.forall_mem_cons.mpr ⟨vc433 (d + 1), fun _ h => absurd h List.not_mem_nil⟩⟩⟩) (cpyX (d + 1)) (by decide +kernel)
end
section
/-! what a close of the reference may change -/
noncomputable def msC : Md3 := [(150, 0, 0), (150, 2, 11), (150, 13, 14), (150, 22, 23), (152, 0, 7), (153, 0, 201), (154, 0, 201), (155, 0, 24), (156, 0, 24), (157, 0, 24)]
theorem all2 {f : Nat → Bool} (h : (List.range 2).all f = true) {s : Nat} (hs : s < 2) : f s = true := List.all_eq_true.mp h s (List.mem_range.mpr hs)
theorem lt2 {s : Nat} (h : s < 2) : s = 0 ∨ s = 1 := by omega
theorem gre_i {r : Option Value} {a b : Int} (h : gre r (some (0, a, b, []))) : ∃ x, r = some (.int x) := by
  cases r with
  | none => exact h.elim
  | some v =>
    cases v with
    | int x => exact ⟨x, rfl⟩
    | long x => have := h.1; cases this
    | ref x => have := h.1; cases this
    | _ => exact h.elim
end
section
/-! the tables 0 .. 6; the reference's state -/
section TAB
noncomputable def rwx : Nat → List (Nat × List Row)
  | 0 => rwt0
  | _ => rwt6
noncomputable def hA (p : Nat) : List Row := cond (Nat.beq p 0) [(14, 14, 1, 1)] [(14, 14, 0, 0)]
noncomputable def hB (p : Nat) : List Row := cond (Nat.beq p 0) [(0, 0, 2, 5)] []
noncomputable def A7 : List Row := [(2, 2, 0, 900), (14, 14, 0, 1), (22, 22, 0, 16), (23, 23, 0, 3)]
noncomputable def B7 : List Row := [(0, 0, 0, 5), (1, 1, 0, 4), (2, 2, 0, 100), (4, 4, 0, 6), (5, 5, 0, 5), (6, 6, 0, 4), (7, 7, 0, 4), (35, 44, 0, 30), (45, 52, 0, 19), (53, 53, 0, 4), (55, 55, 0, 4), (57, 57, 0, 4), (59, 59, 0, 4)]
theorem rwx_eq {p : Nat} (hp : p < 2) : rwx p = (150, hA p ++ A7) :: (153, hB p ++ B7) :: rwt6.drop 2 := by
  rcases lt2 hp with rfl | rfl <;> rfl
theorem rIn_b {r : Row} {k : Nat} (h : rIn r k = true) : r.1 ≤ k ∧ k ≤ r.2.1 := by
  obtain ⟨h1, h2⟩ := andT h
  exact ⟨Nat.le_of_ble_eq_true h1, Nat.le_of_ble_eq_true h2⟩
theorem rw_all {k : Nat} {x : Int} (hx : iLo ≤ x ∧ x ≤ iHi) : ∀ {H : List Row}, (∀ r ∈ H, rIn r k = true → r.2.2.1 ≤ x ∧ x ≤ r.2.2.2) → (rwB H k).1 ≤ x ∧ x ≤ (rwB H k).2
  | [], _ => hx
  | r :: H, hw => by
    show (cond (rIn r k) (r.2.2.1, r.2.2.2) (rwB H k)).1 ≤ x ∧ x ≤ (cond (rIn r k) (r.2.2.1, r.2.2.2) (rwB H k)).2
    cases hr : rIn r k with
    | true => exact hw r List.mem_cons_self hr
    | false => exact rw_all hx (fun r' hm => hw r' (List.mem_cons_of_mem _ hm))
theorem lk_3 {A B : List Row} {t : List (Nat × List Row)} {a : Nat} : lkR ((150, A) :: (153, B) :: t) a = if a = 150 then A else if a = 153 then B else lkR t a := by
  show cond (Nat.beq 150 a) A (cond (Nat.beq 153 a) B (lkR t a)) = _
  by_cases h : a = 150
  · subst h; rfl
  · have e : Nat.beq 150 a = false := by
      cases hq : Nat.beq 150 a with
      | false => rfl
      | true => exact absurd (Nat.eq_of_beq_eq_true hq).symm h
    rw [e, if_neg h]
    by_cases h2 : a = 153
    · subst h2; rfl
    · have e : Nat.beq 153 a = false := by
        cases hq : Nat.beq 153 a with
        | false => rfl
        | true => exact absurd (Nat.eq_of_beq_eq_true hq).symm h2
      rw [e, if_neg h2]
      rfl
/-- the reference's state -/
noncomputable def RefI (M : Mm) : Prop := ∃ p, (p < 2 ∧ eO 1 M) ∧ Iv (mkP (rwx p)) M
end TAB
end
section
/-! feed of both sides: taped grows by 20, or NONE -/
section FED
variable {l : Launch} {X : Nat × (Nat → Int32)} {d : Nat} {M : Mm} {kr : KR}
noncomputable def msF : Md3 := [(2, 1, 1), (3, 0, 899)]
noncomputable def msG : Md3 := [(150, 0, 0), (150, 2, 2), (151, 0, 899)]
theorem tp_st {e : Int} {M0 M : Mm} {t : Nat} {sh x1 : Int32} {b : Nat × Nat} (hJ : Jv Pt8 msF (M0, e) M) (hI : mI M 2 1 = nI t) (ht : t < 900) (hs : ¬ sh < 0) (k : ∀ M', Jv Pt8 msF (M0, e) M' → mI M' 2 1 = nI (t + 1) → Wf l X uX4_tape d true b 3 [(0, .ref 2), (1, .int x1), (2, .int (sh + (-8)))] [] M' kr) : Wf l X uX4_tape d true b 3 [(0, .ref 2), (1, .int x1), (2, .int sh)] [] M kr := by
  have k2 : kk M 2 4 = true := kk_ok hJ.2.1 rfl
  have k3 : kk M 3 8 = true := kk_ok hJ.2.1 rfl
  have r0 : mR M 2 0 = 3 := List.mem_singleton.mp (hJ.2.1.2.2.1 2 0 (by decide))
  have m3 : (mK M 3).2 = 900 := by rw [hJ.2.1.2.1 3 (by decide)]; rfl
  refine Wf.sIl tkX4_tape rfl rfl ?_
  refine Wf.sIf tkX4_tape rfl (fun z => absurd z hs) (fun _ => ?_)
  refine Wf.sAl tkX4_tape rfl rfl rfl ?_
  refine Wf.sG tkX4_tape rfl k2 ?_
  refine Wf.sIc tkX4_tape rfl ?_
  refine Wf.sCm (x := mI M 2 1) (y := 900) tkX4_tape rfl (fun z => absurd (show (900 : Int32) ≤ mI M 2 1 from z) (by rw [hI]; exact nI_ge (a := t) (b := 900) ht (by decide))) (fun _ => ?_)
  refine Wf.sAl tkX4_tape rfl rfl rfl ?_
  refine Wf.sG tkX4_tape rfl k2 ?_
  show Wf l X uX4_tape d true _ 21 _ [.ref (mR M 2 0)] M kr
  rw [r0]
  refine Wf.sAl tkX4_tape rfl rfl rfl ?_
  refine Wf.sG tkX4_tape rfl k2 ?_
  refine Wf.sIl tkX4_tape rfl rfl ?_
  refine Wf.sIl tkX4_tape rfl rfl ?_
  refine Wf.s2 (x := x1) (y := sh) tkX4_tape rfl ?_
  refine Wf.stp1 tkX4_tape (o := o1 28 (fun x => x.toInt8.toInt32)) rfl ?_
  show Wf l X uX4_tape d true _ 29 _ [.int (x1 >>> (sh &&& 31)).toInt8.toInt32, .int (mI M 2 1), .ref 3] M kr
  refine Wf.stp1 tkX4_tape (o := oBas 29) rfl ?_
  simp only [oBas, k3, cond_true]
  refine ⟨t, ⟨hI, by omega, by rw [m3]; exact ht⟩, ?_⟩
  have hJ1 : Jv Pt8 msF (M0, e) (wI M 3 t (x1 >>> (sh &&& 31)).toInt8.toInt32.toInt8.toInt32) := Jv.wI hJ ⟨i32_lo _, i32_hi _⟩ (List.any_eq_true.mpr ⟨(3, 0, 899), by decide, by simp; omega⟩) (by omega)
  have k2 : kk (wI M 3 t (x1 >>> (sh &&& 31)).toInt8.toInt32.toInt8.toInt32) 2 4 = true := kk_ok hJ1.2.1 rfl
  refine Wf.sAl tkX4_tape rfl rfl rfl ?_
  refine Wf.sDup tkX4_tape rfl rfl ?_
  refine Wf.sG tkX4_tape rfl k2 ?_
  refine Wf.sIc tkX4_tape rfl ?_
  refine Wf.s2 (x := mI M 2 1) (y := 1) tkX4_tape rfl ?_
  refine Wf.sPI tkX4_tape rfl k2 ?_
  rw [hI, nI_1]
  have hJ2 := Jv.wI (v := nI (t + 1)) (a := 2) (k := 1) hJ1 (by rw [nI_toInt (by omega)]; show (0 : Int) ≤ ((t + 1 : Nat) : Int) ∧ ((t + 1 : Nat) : Int) ≤ 900; omega) (by decide) (by decide)
  refine Wf.sInc tkX4_tape rfl rfl rfl ?_
  refine Wf.sGo tkX4_tape rfl ?_
  exact k _ hJ2 wI_s
set_option maxRecDepth 20000 in
theorem tp_ev {e : Int} {M0 M : Mm} {t : Nat} {x1 : Int32} (hJ : Jv Pt8 msF (M0, e) M) (hI : mI M 2 1 = nI t) (ht : t + 4 ≤ 900) (h : ∀ M', Jv Pt8 msF (M0, e) M' → mI M' 2 1 = nI (t + 4) → kr none M') : Ev l X uX4_tape d true 0 0 [.ref 2, .int x1] M kr := by
  refine Ev.of (by decide) (Nat.le_of_ble_eq_true rfl) ?_
  refine Wf.sIc tkX4_tape rfl ?_
  refine Wf.sIs tkX4_tape rfl rfl ?_
  refine tp_st hJ hI (by omega) (by decide) (fun M1 hJ1 h1 => ?_)
  refine tp_st hJ1 h1 (by omega) (by decide) (fun M2 hJ2 h2 => ?_)
  refine tp_st hJ2 h2 (by omega) (by decide) (fun M3 hJ3 h3 => ?_)
  refine tp_st hJ3 h3 (by omega) (by decide) (fun M4 hJ4 h4 => ?_)
  refine Wf.sIl tkX4_tape rfl rfl ?_
  refine Wf.sIf tkX4_tape rfl (fun _ => ?_) (fun z => absurd (show (24 : Int32) + (-8) + (-8) + (-8) + (-8) < 0 by decide) z)
  exact Wf.sVr tkX4_tape rfl (h M4 hJ4 h4)
set_option maxRecDepth 20000 in
theorem fd6 {e : Int} {t : Nat} {x1 x2 x3 x4 x5 : Int32} (hI : Iv Pt8 M) (he : eO e M) (ht : mI M 2 1 = nI t) (h9 : t ≤ 900) (h0 : 880 < t → kr (some (.int (-1))) M) (h1 : ∀ M', t ≤ 880 → Jv Pt8 msF (M, e) M' → mI M' 2 1 = nI (t + 20) → kr (some (.int (nI (t + 20)))) M') : Ev l X uX6_feed (d + 1) true 0 0 [.ref 1, .int x1, .int x2, .int x3, .int x4, .int x5] M kr := by
  refine Ev.of (by decide) (Nat.le_of_ble_eq_true rfl) ?_
  have k1 : kk M 1 6 = true := kk_ok hI rfl
  have k2 : kk M 2 4 = true := kk_ok hI rfl
  have r0 : mR M 1 0 = 2 := List.mem_singleton.mp (hI.2.2.1 1 0 (by decide))
  have hJ : Jv Pt8 msF (M, e) M := Jv.rf hI he
  refine Wf.sAl tkX6_feed rfl rfl rfl ?_
  refine Wf.sG tkX6_feed rfl k1 ?_
  show Wf l X uX6_feed (d + 1) true _ 4 _ [.ref (mR M 1 0)] M kr
  rw [r0]
  refine Wf.sG tkX6_feed rfl k2 ?_
  refine Wf.sIc tkX6_feed rfl ?_
  refine Wf.s2 (x := mI M 2 1) (y := 20) tkX6_feed rfl ?_
  refine Wf.sIc tkX6_feed rfl ?_
  have e20 : mI M 2 1 + 20 = nI (t + 20) := by
    rw [ht]
    refine Int32.toInt_inj.mp ?_
    have e1 : (20 : Int32).toInt = 20 := rfl
    have lo : iLo ≤ -1 := by decide
    have hhi : (1000 : Int) ≤ iHi := by decide
    rw [add_i (by rw [nI_toInt (by omega), e1]; omega) (by rw [nI_toInt (by omega), e1]; omega), nI_toInt (by omega), nI_toInt (by omega), e1]
    omega
  refine Wf.sCm (x := mI M 2 1 + 20) (y := 900) tkX6_feed rfl (fun z => ?_) (fun z => ?_)
  · have z : mI M 2 1 + 20 ≤ 900 := z
    rw [e20, Int32.le_iff_toInt_le, nI_toInt (by omega)] at z
    have e9 : (900 : Int32).toInt = 900 := rfl
    have h8 : t ≤ 880 := by omega
    refine Wf.sAl tkX6_feed rfl rfl rfl ?_
    refine Wf.sG tkX6_feed rfl k1 ?_
    show Wf l X uX6_feed (d + 1) true _ 22 _ [.ref (mR M 1 0)] M kr
    rw [r0]
    refine Wf.sIl tkX6_feed rfl rfl ?_
    refine Wf.sCv (as := [.int x1]) (rest := []) tkX6_feed rfl rfl k2 rfl ?_
    refine tp_ev hJ ht (by omega) (fun M1 hJ1 ht1 => ?_)
    have k1 : kk M1 1 6 = true := kk_ok hJ1.2.1 rfl
    have k2 : kk M1 2 4 = true := kk_ok hJ1.2.1 rfl
    have r0 : mR M1 1 0 = 2 := List.mem_singleton.mp (hJ1.2.1.2.2.1 1 0 (by decide))
    refine Wf.sAl tkX6_feed rfl rfl rfl ?_
    refine Wf.sG tkX6_feed rfl k1 ?_
    show Wf l X uX6_feed (d + 1) true _ 30 _ [.ref (mR M1 1 0)] M1 kr
    rw [r0]
    refine Wf.sIl tkX6_feed rfl rfl ?_
    refine Wf.sCv (as := [.int x2]) (rest := []) tkX6_feed rfl rfl k2 rfl ?_
    refine tp_ev hJ1 ht1 (by omega) (fun M2 hJ2 ht2 => ?_)
    have k1 : kk M2 1 6 = true := kk_ok hJ2.2.1 rfl
    have k2 : kk M2 2 4 = true := kk_ok hJ2.2.1 rfl
    have r0 : mR M2 1 0 = 2 := List.mem_singleton.mp (hJ2.2.1.2.2.1 1 0 (by decide))
    refine Wf.sAl tkX6_feed rfl rfl rfl ?_
    refine Wf.sG tkX6_feed rfl k1 ?_
    show Wf l X uX6_feed (d + 1) true _ 38 _ [.ref (mR M2 1 0)] M2 kr
    rw [r0]
    refine Wf.sIl tkX6_feed rfl rfl ?_
    refine Wf.sCv (as := [.int x3]) (rest := []) tkX6_feed rfl rfl k2 rfl ?_
    refine tp_ev hJ2 ht2 (by omega) (fun M3 hJ3 ht3 => ?_)
    have k1 : kk M3 1 6 = true := kk_ok hJ3.2.1 rfl
    have k2 : kk M3 2 4 = true := kk_ok hJ3.2.1 rfl
    have r0 : mR M3 1 0 = 2 := List.mem_singleton.mp (hJ3.2.1.2.2.1 1 0 (by decide))
    refine Wf.sAl tkX6_feed rfl rfl rfl ?_
    refine Wf.sG tkX6_feed rfl k1 ?_
    show Wf l X uX6_feed (d + 1) true _ 46 _ [.ref (mR M3 1 0)] M3 kr
    rw [r0]
    refine Wf.sIl tkX6_feed rfl rfl ?_
    refine Wf.sCv (as := [.int x4]) (rest := []) tkX6_feed rfl rfl k2 rfl ?_
    refine tp_ev hJ3 ht3 (by omega) (fun M4 hJ4 ht4 => ?_)
    have k1 : kk M4 1 6 = true := kk_ok hJ4.2.1 rfl
    have k2 : kk M4 2 4 = true := kk_ok hJ4.2.1 rfl
    have r0 : mR M4 1 0 = 2 := List.mem_singleton.mp (hJ4.2.1.2.2.1 1 0 (by decide))
    refine Wf.sAl tkX6_feed rfl rfl rfl ?_
    refine Wf.sG tkX6_feed rfl k1 ?_
    show Wf l X uX6_feed (d + 1) true _ 55 _ [.ref (mR M4 1 0)] M4 kr
    rw [r0]
    refine Wf.sIl tkX6_feed rfl rfl ?_
    refine Wf.sCv (as := [.int x5]) (rest := []) tkX6_feed rfl rfl k2 rfl ?_
    refine tp_ev hJ4 ht4 (by omega) (fun M5 hJ5 ht5 => ?_)
    have k1 : kk M5 1 6 = true := kk_ok hJ5.2.1 rfl
    have k2 : kk M5 2 4 = true := kk_ok hJ5.2.1 rfl
    have r0 : mR M5 1 0 = 2 := List.mem_singleton.mp (hJ5.2.1.2.2.1 1 0 (by decide))
    refine Wf.sAl tkX6_feed rfl rfl rfl ?_
    refine Wf.sG tkX6_feed rfl k1 ?_
    show Wf l X uX6_feed (d + 1) true _ 64 _ [.ref (mR M5 1 0)] M5 kr
    rw [r0]
    refine Wf.sG tkX6_feed rfl k2 ?_
    refine Wf.sIr (v := mI M5 2 1) tkX6_feed rfl ?_
    rw [ht5]
    exact h1 M5 h8 hJ5 ht5
  · have z : ¬ mI M 2 1 + 20 ≤ 900 := z
    rw [e20, Int32.le_iff_toInt_le, nI_toInt (by omega)] at z
    have e9 : (900 : Int32).toInt = 900 := rfl
    refine Wf.sIc tkX6_feed rfl ?_
    exact Wf.sIr tkX6_feed rfl (h0 (by omega))
set_option maxRecDepth 20000 in
theorem fd7_loop {P : List (Nat × List Row)} {e : Int} {M0 : Mm} {t : Nat} {x1 x2 x3 x4 x5 : Int32} {b : Nat × Nat} (hP : lkR P 151 = []) (hP2 : rwB (lkR P 150) 2 = (0, 900)) (h8 : t ≤ 880) (h : ∀ M', Jv (mkP P) msG (M0, e) M' → mI M' 150 2 = nI (t + 20) → kr (some (.int (nI (t + 20)))) M') : ∀ k, k ≤ 20 → ∀ (zs : Ls) (M : Mm), (zs = [] ∨ ∃ z : Int32, zs = [(7, .int z)]) → Jv (mkP P) msG (M0, e) M → mI M 150 2 = nI (t + k) → Wf l X uX7_feed d true b 23 ([(0, .ref 150), (1, .int x1), (2, .int x2), (3, .int x3), (4, .int x4), (5, .int x5), (6, .int (nI k))] ++ zs) [] M kr := by
  refine dwn _ 20 ?_ ?_
  · intro zs M hz hJ ht
    refine Wf.sub (fun x hx => List.mem_append_left zs hx) ?_
    have k150 : kk M 150 7 = true := kk_ok hJ.2.1 rfl
    refine Wf.sIl tkX7_feed rfl rfl ?_
    refine Wf.sIc tkX7_feed rfl ?_
    refine Wf.sCm (x := nI 20) (y := 20) tkX7_feed rfl (fun _ => ?_) (fun z => absurd (show (20 : Int32) ≤ nI 20 by decide) z)
    refine Wf.sAl tkX7_feed rfl rfl rfl ?_
    refine Wf.sG tkX7_feed rfl k150 ?_
    refine Wf.sIr (v := mI M 150 2) tkX7_feed rfl ?_
    rw [ht]
    exact h M hJ ht
  · intro k hk ih zs M hz hJ ht
    refine Wf.sub (fun x hx => List.mem_append_left zs hx) ?_
    have k150 : kk M 150 7 = true := kk_ok hJ.2.1 rfl
    have k151 : kk M 151 9 = true := kk_ok hJ.2.1 rfl
    have r1 : mR M 150 1 = 151 := List.mem_singleton.mp (hJ.2.1.2.2.1 150 1 (by decide))
    have m1 : (mK M 151).2 = 900 := by rw [hJ.2.1.2.1 151 (by decide)]; rfl
    have on : ∀ w : Int32, Wf l X uX7_feed d true b 76 [(0, .ref 150), (1, .int x1), (2, .int x2), (3, .int x3), (4, .int x4), (5, .int x5), (6, .int (nI k))] [.int w] M kr := by
      intro w
      refine Wf.sIs tkX7_feed rfl rfl ?_
      refine Wf.sAl tkX7_feed rfl rfl rfl ?_
      refine Wf.sG tkX7_feed rfl k150 ?_
      show Wf l X uX7_feed d true _ 82 _ [.ref (mR M 150 1)] M kr
      rw [r1]
      refine Wf.sAl tkX7_feed rfl rfl rfl ?_
      refine Wf.sG tkX7_feed rfl k150 ?_
      refine Wf.sIl tkX7_feed rfl rfl ?_
      refine Wf.sIc tkX7_feed rfl ?_
      refine Wf.sIc tkX7_feed rfl ?_
      refine Wf.sIl tkX7_feed rfl rfl ?_
      refine Wf.sIc tkX7_feed rfl ?_
      refine Wf.stp1 tkX7_feed (o := o2d 95 (fun x y => x - x / y * y)) rfl ⟨by decide, ?_⟩
      refine Wf.s2 (x := 8) (y := nI k - nI k / 4 * 4) tkX7_feed rfl ?_
      refine Wf.s2 (x := 24) (y := 8 * (nI k - nI k / 4 * 4)) tkX7_feed rfl ?_
      refine Wf.s2 (x := w) (y := 24 - 8 * (nI k - nI k / 4 * 4)) tkX7_feed rfl ?_
      refine Wf.sIc tkX7_feed rfl ?_
      refine Wf.s2 (y := 255) tkX7_feed rfl ?_
      show Wf l X uX7_feed d true _ 103 _ [.int _, .int (mI M 150 2), .ref 151] M kr
      refine Wf.sIas (j := t + k) tkX7_feed rfl k151 ⟨ht, by omega, by rw [m1]; omega⟩ ?_
      have hJ1 := Jv.wI (v := w >>> ((24 - 8 * (nI k - nI k / 4 * 4)) &&& 31) &&& 255) (a := 151) (k := t + k) hJ (by
        show (rwB (lkR P 151) (t + k)).1 ≤ _ ∧ _ ≤ (rwB (lkR P 151) (t + k)).2
        rw [hP]
        exact ⟨i32_lo _, i32_hi _⟩) (List.any_eq_true.mpr ⟨(151, 0, 899), by decide, by simp; omega⟩) (by omega)
      have k150 := kk_ok (n := 150) (c := 7) hJ1.2.1 rfl
      refine Wf.sAl tkX7_feed rfl rfl rfl ?_
      refine Wf.sDup tkX7_feed rfl rfl ?_
      refine Wf.sG tkX7_feed rfl k150 ?_
      refine Wf.sIc tkX7_feed rfl ?_
      refine Wf.s2 (x := mI M 150 2) (y := 1) tkX7_feed rfl ?_
      refine Wf.sPI tkX7_feed rfl k150 ?_
      have hJ2 := Jv.wI (v := nI (t + k + 1)) (a := 150) (k := 2) hJ1 (by
        show (rwB (lkR P 150) 2).1 ≤ _ ∧ _ ≤ (rwB (lkR P 150) 2).2
        rw [hP2, nI_toInt (by omega)]
        show (0 : Int) ≤ ((t + k + 1 : Nat) : Int) ∧ ((t + k + 1 : Nat) : Int) ≤ 900
        omega) (by decide) (by decide)
      rw [ht, nI_1]
      refine Wf.sInc tkX7_feed rfl rfl rfl ?_
      refine Wf.sGo tkX7_feed rfl ?_
      rw [nI_1]
      exact ih [(7, .int w)] _ (Or.inr ⟨w, rfl⟩) hJ2 wI_s
    refine Wf.sIl tkX7_feed rfl rfl ?_
    refine Wf.sIc tkX7_feed rfl ?_
    refine Wf.sCm (x := nI k) (y := 20) tkX7_feed rfl (fun z => absurd (show nI 20 ≤ nI k from z) (nI_ge hk (by decide))) (fun _ => ?_)
    refine Wf.sIl tkX7_feed rfl rfl ?_
    refine Wf.sIc tkX7_feed rfl ?_
    refine Wf.sCm tkX7_feed rfl (fun _ => ?_) (fun _ => Wf.sIl tkX7_feed rfl rfl (Wf.sGo tkX7_feed rfl (on _)))
    refine Wf.sIl tkX7_feed rfl rfl ?_
    refine Wf.sIc tkX7_feed rfl ?_
    refine Wf.sCm tkX7_feed rfl (fun _ => ?_) (fun _ => Wf.sIl tkX7_feed rfl rfl (Wf.sGo tkX7_feed rfl (on _)))
    refine Wf.sIl tkX7_feed rfl rfl ?_
    refine Wf.sIc tkX7_feed rfl ?_
    refine Wf.sCm tkX7_feed rfl (fun _ => ?_) (fun _ => Wf.sIl tkX7_feed rfl rfl (Wf.sGo tkX7_feed rfl (on _)))
    refine Wf.sIl tkX7_feed rfl rfl ?_
    refine Wf.sIc tkX7_feed rfl ?_
    refine Wf.sCm tkX7_feed rfl (fun _ => ?_) (fun _ => Wf.sIl tkX7_feed rfl rfl (Wf.sGo tkX7_feed rfl (on _)))
    refine Wf.sIl tkX7_feed rfl rfl ?_
    exact on _
set_option maxRecDepth 20000 in
theorem fd7 {P : List (Nat × List Row)} {e : Int} {t : Nat} {x1 x2 x3 x4 x5 : Int32} (hP : lkR P 151 = []) (hP2 : rwB (lkR P 150) 2 = (0, 900)) (hP0 : rwB (lkR P 150) 0 = (iLo, iHi)) (hI : Iv (mkP P) M) (he : eO e M) (ht : mI M 150 2 = nI t) (h9 : t ≤ 900) (h0 : ∀ M', 880 < t → Jv (mkP P) msG (M, e) M' → mI M' 150 2 = nI t → kr (some (.int (-1))) M') (h1 : ∀ M', t ≤ 880 → Jv (mkP P) msG (M, e) M' → mI M' 150 2 = nI (t + 20) → kr (some (.int (nI (t + 20)))) M') : Ev l X uX7_feed d true 0 0 [.ref 150, .int x1, .int x2, .int x3, .int x4, .int x5] M kr := by
  refine Ev.of (by decide) (Nat.le_of_ble_eq_true rfl) ?_
  have k150 : kk M 150 7 = true := kk_ok hI rfl
  refine Wf.sAl tkX7_feed rfl rfl rfl ?_
  refine Wf.sIc tkX7_feed rfl ?_
  refine Wf.sPI tkX7_feed rfl k150 ?_
  have hJ : Jv (mkP P) msG (M, e) (wI M 150 0 0) := Jv.wI (Jv.rf hI he) (by
    show (rwB (lkR P 150) 0).1 ≤ _ ∧ _ ≤ (rwB (lkR P 150) 0).2
    rw [hP0]
    exact ⟨i32_lo _, i32_hi _⟩) (by decide) (by decide)
  have ht : mI (wI M 150 0 0) 150 2 = nI t := ht
  have k150 : kk (wI M 150 0 0) 150 7 = true := kk_ok hJ.2.1 rfl
  refine Wf.sAl tkX7_feed rfl rfl rfl ?_
  refine Wf.sG tkX7_feed rfl k150 ?_
  refine Wf.sIc tkX7_feed rfl ?_
  refine Wf.s2 (x := mI (wI M 150 0 0) 150 2) (y := 20) tkX7_feed rfl ?_
  refine Wf.sIc tkX7_feed rfl ?_
  have e20 : mI (wI M 150 0 0) 150 2 + 20 = nI (t + 20) := by
    rw [ht]
    refine Int32.toInt_inj.mp ?_
    have e1 : (20 : Int32).toInt = 20 := rfl
    have lo : iLo ≤ -1 := by decide
    have hhi : (1000 : Int) ≤ iHi := by decide
    rw [add_i (by rw [nI_toInt (by omega), e1]; omega) (by rw [nI_toInt (by omega), e1]; omega), nI_toInt (by omega), nI_toInt (by omega), e1]
    omega
  refine Wf.sCm (x := mI (wI M 150 0 0) 150 2 + 20) (y := 900) tkX7_feed rfl (fun z => ?_) (fun z => ?_)
  · have z : mI (wI M 150 0 0) 150 2 + 20 ≤ 900 := z
    rw [e20, Int32.le_iff_toInt_le, nI_toInt (by omega)] at z
    have e9 : (900 : Int32).toInt = 900 := rfl
    have h8 : t ≤ 880 := by omega
    refine Wf.sIc tkX7_feed rfl ?_
    refine Wf.sIs tkX7_feed rfl rfl ?_
    exact fd7_loop hP hP2 h8 (fun M' hJ' ht' => h1 M' h8 hJ' ht') 0 (Nat.zero_le _) [] _ (Or.inl rfl) hJ ht
  · have z : ¬ mI (wI M 150 0 0) 150 2 + 20 ≤ 900 := z
    rw [e20, Int32.le_iff_toInt_le, nI_toInt (by omega)] at z
    have e9 : (900 : Int32).toInt = 900 := rfl
    refine Wf.sIc tkX7_feed rfl ?_
    exact Wf.sIr tkX7_feed rfl (h0 _ (by omega) hJ ht)
end FED
end
section
/-! the class's close: taped is 0 behind it, or as it was -/
section CL6
variable {l : Launch} {X : Nat × (Nat → Int32)} {d : Nat} {M : Mm} {kr : KR}
noncomputable def msZ8 : Md3 := [(1, 1, 2), (1, 6, 6), (1, 8, 8), (1, 13, 13), (2, 1, 8), (2, 12, 14), (4, 0, 14), (5, 0, 14), (6, 0, 14), (7, 0, 4), (7, 10, 10), (7, 14, 14), (7, 17, 17), (8, 0, 5), (9, 0, 5), (10, 0, 5), (11, 0, 5), (12, 0, 5), (13, 0, 4), (14, 0, 4), (15, 0, 4), (16, 0, 3), (17, 0, 3), (18, 0, 3), (19, 0, 3), (20, 0, 4), (20, 10, 10), (20, 14, 14), (20, 17, 17), (21, 0, 5), (22, 0, 5), (23, 0, 5), (24, 0, 5), (25, 0, 5), (26, 0, 4), (27, 0, 4), (28, 0, 4), (29, 0, 3), (30, 0, 3), (31, 0, 3), (32, 0, 3), (33, 4, 5), (34, 0, 5), (35, 0, 5), (36, 0, 5), (37, 0, 4)]
noncomputable def msY8 : Md3 := [(1, 1, 2), (1, 6, 6), (1, 8, 8), (1, 13, 13), (2, 12, 14), (4, 0, 14), (5, 0, 14), (6, 0, 14), (7, 0, 4), (7, 10, 10), (7, 14, 14), (7, 17, 17), (8, 0, 5), (9, 0, 5), (10, 0, 5), (11, 0, 5), (12, 0, 5), (13, 0, 4), (14, 0, 4), (15, 0, 4), (16, 0, 3), (17, 0, 3), (18, 0, 3), (19, 0, 3), (20, 0, 4), (20, 10, 10), (20, 14, 14), (20, 17, 17), (21, 0, 5), (22, 0, 5), (23, 0, 5), (24, 0, 5), (25, 0, 5), (26, 0, 4), (27, 0, 4), (28, 0, 4), (29, 0, 3), (30, 0, 3), (31, 0, 3), (32, 0, 3), (33, 4, 5), (34, 0, 5), (35, 0, 5), (36, 0, 5), (37, 0, 4), (2, 2, 8)]
noncomputable def K68 : Con := ((0, [(2, 0, 0, [1]), (0, 0, 900, [])], []), msY8, [(some (0, iLo, iHi, []), [], [])])
noncomputable def Ks68 : List Con := [Kc2, Kc61, Kc62, Kc63, Kc110, Kc111]
set_option maxRecDepth 20000 in
theorem t68 : run (stpc Pt8 msY8 K68.2.2 Ks68 152 cdX6_close) (hsp [] none []) 1000 29 (ent K68) = true := by decide +kernel
set_option maxRecDepth 20000 in
theorem cl6_ev {e : Int} {n : Int32} (hI : Iv Pt8 M) (he : eO e M) (h : ∀ (r : Int32) (M' : Mm), Jv Pt8 msZ8 (M, e) M' → mI M' 2 1 = (if inB n 0 (mI M 2 1) = true then 0 else mI M 2 1) → kr (some (.int r)) M') : Ev l X uX6_close (d + 11) true 0 0 [.ref 1, .int n] M kr := by
  have k1 : kk M 1 6 = true := kk_ok hI rfl
  have k2 : kk M 2 4 = true := kk_ok hI rfl
  have r0 : mR M 1 0 = 2 := List.mem_singleton.mp (hI.2.2.1 1 0 (by decide))
  have hJ0 : Jv Pt8 msZ8 (M, e) M := Jv.rf hI he
  refine Ev.of (by decide) (Nat.le_of_ble_eq_true rfl) ?_
  have refu : inB n 0 (mI M 2 1) = false → Wf l X uX6_close (d + 11) true (mC M + 0, mS M + 0) 15 [(0, .ref 1), (1, .int n)] [] M kr := by
    intro hb
    rw [hb] at h
    refine Wf.sAl tkX6_close rfl rfl rfl ?_
    refine Wf.sIc tkX6_close rfl ?_
    refine Wf.sCv (as := [.int 2]) (rest := []) tkX6_close rfl rfl k1 rfl ?_
    refine vc2 (d + 10) [.ref 1, .int 2] M _ hI he ⟨⟨rfl, List.mem_singleton.mpr rfl⟩, ⟨rfl, i32_lo _, i32_hi _⟩, trivial⟩ (fun f hf => absurd hf List.not_mem_nil) (fun r M2 hJ2 hq => ?_)
    obtain ⟨q, hq, g1, -, -⟩ := hq
    obtain rfl := List.mem_singleton.mp hq
    obtain ⟨x, rfl⟩ := gre_i g1
    exact Wf.sIr tkX6_close rfl (h x M2 (Jv_tr hJ0 hJ2 (by decide)) (by rw [(hJ2.2.2.1 2 1 rfl).1]; rfl))
  refine Wf.sIl tkX6_close rfl rfl ?_
  refine Wf.sIf (x := n) tkX6_close rfl (fun z => refu ?_) (fun z => ?_)
  · have z : n < 0 := z
    unfold inB
    rw [show decide (¬ n < 0) = false from decide_eq_false (fun q => q z)]
    rfl
  have z : ¬ n < 0 := z
  refine Wf.sIl tkX6_close rfl rfl ?_
  refine Wf.sAl tkX6_close rfl rfl rfl ?_
  refine Wf.sG tkX6_close rfl k1 ?_
  show Wf l X uX6_close (d + 11) true _ 9 _ [.ref (mR M 1 0), .int n] M kr
  rw [r0]
  refine Wf.sG tkX6_close rfl k2 ?_
  refine Wf.sCm (x := n) (y := mI M 2 1) tkX6_close rfl (fun z2 => ?_) (fun z2 => refu (by
    have z2 : ¬ n ≤ mI M 2 1 := z2
    unfold inB
    rw [show decide (¬ mI M 2 1 < n) = false from decide_eq_false (fun q => q (Int32.not_le.mp z2)), Bool.and_false]))
  have z2 : n ≤ mI M 2 1 := z2
  have hb : inB n 0 (mI M 2 1) = true := by
    unfold inB
    rw [show decide (¬ n < 0) = true from decide_eq_true z, show decide (¬ mI M 2 1 < n) = true from decide_eq_true (Int32.not_lt.mpr z2)]
    rfl
  rw [hb] at h
  have nb : 0 ≤ n.toInt ∧ n.toInt ≤ 900 := by
    have e0 : (0 : Int32).toInt = 0 := rfl
    have b := (hI.2.2.2 2 1 (by decide)).2
    have b : (mI M 2 1).toInt ≤ 900 := b
    rw [Int32.lt_iff_toInt_lt] at z
    rw [Int32.le_iff_toInt_le] at z2
    omega
  refine Wf.sAl tkX6_close rfl rfl rfl ?_
  refine Wf.sG tkX6_close rfl k1 ?_
  show Wf l X uX6_close (d + 11) true _ 25 _ [.ref (mR M 1 0)] M kr
  rw [r0]
  refine Wf.sIc tkX6_close rfl ?_
  refine Wf.sPI tkX6_close rfl k2 ?_
  have hJ1 : Jv Pt8 msZ8 (M, e) (wI M 2 1 0) := Jv.wI hJ0 (by decide) (by decide) (by decide)
  have hr : ∀ r M', Jv Pt8 msY8 (wI M 2 1 0, e) M' → gps [.ref 1, .int n] r M' K68.2.2 → kr r M' := by
    intro r M' hJ' hq
    obtain ⟨q, hq, g1, -, -⟩ := hq
    obtain rfl := List.mem_singleton.mp hq
    obtain ⟨x, rfl⟩ := gre_i g1
    exact h x M' (Jv_tr hJ1 hJ' (by decide)) (by rw [(hJ'.2.2.1 2 1 rfl).1]; rfl)
  exact from_ok (Hs := []) (fuel := 1000) (stp := stpc Pt8 msY8 K68.2.2 Ks68 152 cdX6_close) (J := Jv Pt8 msY8 (wI M 2 1 0, e)) (tb := ctb l X (d + 10) U0 cdX6_close) (by rw [← ceX6_close]; exact tkX6_close) (stpc_ok (M0 := (wI M 2 1 0, e)) (List.forall_mem_cons.mpr ⟨vc2 (d + 10), List.forall_mem_cons.mpr ⟨vc61 d, List.forall_mem_cons.mpr ⟨vc62 (d + 9), List.forall_mem_cons.mpr ⟨vc63 (d + 10), List.forall_mem_cons.mpr ⟨vc110 d, List.forall_mem_cons.mpr ⟨vc111 (d + 9), fun _ h => absurd h List.not_mem_nil⟩⟩⟩⟩⟩⟩) (cpyX (d + 10)) hr) (fun _ h => absurd h List.not_mem_nil) t68 (Jv.rf hJ1.2.1 hJ1.2.2.2) (ent_in (K := K68) (av := [.ref 1, .int n]) (Nat.le_of_ble_eq_true rfl) ⟨⟨rfl, List.mem_singleton.mpr rfl⟩, ⟨rfl, nb.1, nb.2⟩, trivial⟩ (fun f hm => absurd hm List.not_mem_nil))
end CL6
end
section
/-! what holds of the memory between two calls of the law; a row for each call out of the contracts -/
section INV
variable {l : Launch} {X : Nat × (Nat → Int32)} {M M' : Mm} {kr : KR}
noncomputable def sep (S : List (Nat × List Row)) (ms : Md3) : Bool := (List.range 168).all (fun a => (lkR S a).isEmpty || ms.all (fun m => !(Nat.beq m.1 a)))
theorem Iv_keep {R S : List (Nat × List Row)} {ms : Md3} (hS : Iv (mkP S) M) (hR : Iv (mkP R) M') (hk : kp ms M M') (hd : sep S ms = true) : Iv (mkP S) M' := by
  refine ⟨hR.1, hR.2.1, hR.2.2.1, fun a k ha => ?_⟩
  have q := List.all_eq_true.mp hd a (List.mem_range.mpr (by omega))
  show (rwB (lkR S a) k).1 ≤ (mI M' a k).toInt ∧ (mI M' a k).toInt ≤ (rwB (lkR S a) k).2
  cases hb : (lkR S a).isEmpty with
  | true =>
    rw [List.isEmpty_iff.mp hb]
    exact ⟨i32_lo _, i32_hi _⟩
  | false =>
    rw [hb] at q
    have q : ms.all (fun m => !(Nat.beq m.1 a)) = true := q
    have hi : inm ms a k = false := by
      cases hq : inm ms a k with
      | false => rfl
      | true =>
        obtain ⟨m, hm, h4⟩ := List.any_eq_true.mp hq
        obtain ⟨h4, -⟩ := andT h4
        have := List.all_eq_true.mp q m hm
        rw [h4] at this
        cases this
    rw [(hk a k hi).1]
    exact hS.2.2.2 a k ha
noncomputable def LI (M : Mm) : Prop := Iv Pt8 M ∧ RefI M ∧ ∃ t : Nat, t ≤ 900 ∧ mI M 2 1 = nI t ∧ mI M 150 2 = nI t
theorem LI_e (h : LI M) : eO 1 M := by
  obtain ⟨p, hp, -⟩ := h.2.1
  exact hp.2
noncomputable def sep6 (ms : Md3) : Bool := (List.range 2).all (fun p => sep (rwx p) ms)
theorem sep153 {ms : Md3} {p k : Nat} (hp : p < 2) (hd : sep (rwx p) ms = true) : inm ms 153 k = false := by
  have q := List.all_eq_true.mp hd 153 (List.mem_range.mpr (by decide))
  have hb : (lkR (rwx p) 153).isEmpty = false := by
    rcases lt2 hp with rfl | rfl <;> rfl
  rw [hb] at q
  have q : ms.all (fun m => !(Nat.beq m.1 153)) = true := q
  cases hq : inm ms 153 k with
  | false => rfl
  | true =>
    obtain ⟨m, hm, h4⟩ := List.any_eq_true.mp hq
    obtain ⟨h4, -⟩ := andT h4
    have := List.all_eq_true.mp q m hm
    rw [h4] at this
    cases this
theorem RefI_keep {ms : Md3} (h : RefI M) (h8 : Iv Pt8 M') (hk : kp ms M M') (hs : sep6 ms = true) : RefI M' := by
  obtain ⟨p, hp, hI⟩ := h
  have hd : sep (rwx p) ms = true := all2 (f := fun p => sep (rwx p) ms) hs hp.1
  exact ⟨p, ⟨hp.1, eO_cg (fun k => (hk 153 k (sep153 hp.1 hd)).1) hp.2⟩, Iv_keep hI h8 hk hd⟩
/-- an answer is an int, or a long -/
noncomputable def rki (v : Value) : Nat → Prop := fun t => match v with
  | .int _ => t = 0
  | .long _ => t = 1
  | _ => False
noncomputable def posts (t : Nat) (ps : List Po) : Bool := ps.all (fun p => match p.1 with
  | some b => Nat.beq b.1 t && Nat.ble t 1
  | none => false)
theorem posts_ok {t : Nat} {ps : List Po} {av : List Value} {r : Option Value} (h : posts t ps = true) (hp : gps av r M ps) : ∃ v, r = some v ∧ rki v t := by
  obtain ⟨p, hm, h1, -, -⟩ := hp
  have q := List.all_eq_true.mp h p hm
  cases hb : p.1 with
  | none => rw [hb] at q; cases q
  | some b =>
    rw [hb] at q h1
    obtain ⟨q1, q2⟩ := andT q
    have q1 := Nat.eq_of_beq_eq_true q1
    have q2 := Nat.le_of_ble_eq_true q2
    cases r with
    | none => exact h1.elim
    | some v =>
      refine ⟨v, rfl, ?_⟩
      cases v with
      | int x => exact q1.symm.trans h1.1
      | long x => exact q1.symm.trans h1.1
      | ref x =>
        have := h1.1
        omega
      | _ => exact h1.elim
noncomputable def ck6 (t : Nat) (K : Con) : Bool := sep6 K.2.1 && (!(inm K.2.1 2 1) && (!(inm K.2.1 150 2) && (posts t K.2.2 && K.1.2.2.isEmpty)))
theorem c6_of {K : Con} {dd t : Nat} (hv : Vc l X U0 Pt8 1 dd K) (hc : ck6 t K = true) {av : List Value} (hL : LI M) (hb : gbs av K.1.2.1) (h : ∀ v M', rki v t → LI M' → M'.1 = M.1 → kp K.2.1 M M' → kr (some v) M') : Ev l X (U0 K.1.1) dd true 0 0 av M kr := by
  obtain ⟨c1, c2⟩ := andT hc
  obtain ⟨c2, c3⟩ := andT c2
  obtain ⟨c3, c4⟩ := andT c3
  obtain ⟨c4, c5⟩ := andT c4
  have n1 : inm K.2.1 2 1 = false := by
    cases hq : inm K.2.1 2 1 with
    | false => rfl
    | true => rw [hq] at c2; cases c2
  have n2 : inm K.2.1 150 2 = false := by
    cases hq : inm K.2.1 150 2 with
    | false => rfl
    | true => rw [hq] at c3; cases c3
  refine hv av M kr hL.1 (LI_e hL) hb (fun f hf => by rw [List.isEmpty_iff.mp c5] at hf; exact absurd hf List.not_mem_nil) (fun r M' hJ hp => ?_)
  obtain ⟨v, rfl, hk⟩ := posts_ok c4 hp
  obtain ⟨t0, t1, t2, t3⟩ := hL.2.2
  exact h v M' hk ⟨hJ.2.1, RefI_keep hL.2.1 hJ.2.1 hJ.2.2.1 c1, t0, t1, by rw [(hJ.2.2.1 2 1 n1).1]; exact t2, by rw [(hJ.2.2.1 150 2 n2).1]; exact t3⟩ hJ.1 hJ.2.2.1
noncomputable def ck7 (t : Nat) (K : Con) : Bool := sep rwt8 K.2.1 && (!(inm K.2.1 2 1) && (!(inm K.2.1 150 2) && (posts t K.2.2 && K.1.2.2.isEmpty)))
theorem r7_of1 {K : Con} {dd t p : Nat} (hp : p < 2 ∧ eO 1 M) (hv : Vc l X U0 (mkP (rwx p)) 1 dd K) (hc : ck7 t K = true) {av : List Value} (h8 : Iv Pt8 M) (hI : Iv (mkP (rwx p)) M) (ht : ∃ t : Nat, t ≤ 900 ∧ mI M 2 1 = nI t ∧ mI M 150 2 = nI t) (hb : gbs av K.1.2.1) (h : ∀ v M', rki v t → LI M' → M'.1 = M.1 → kp K.2.1 M M' → kr (some v) M') : Ev l X (U0 K.1.1) dd true 0 0 av M kr := by
  obtain ⟨c1, c2⟩ := andT hc
  obtain ⟨c2, c3⟩ := andT c2
  obtain ⟨c3, c4⟩ := andT c3
  obtain ⟨c4, c5⟩ := andT c4
  have n1 : inm K.2.1 2 1 = false := by
    cases hq : inm K.2.1 2 1 with
    | false => rfl
    | true => rw [hq] at c2; cases c2
  have n2 : inm K.2.1 150 2 = false := by
    cases hq : inm K.2.1 150 2 with
    | false => rfl
    | true => rw [hq] at c3; cases c3
  have hL : LI M := ⟨h8, ⟨p, hp, hI⟩, ht⟩
  refine hv av M kr hI (LI_e hL) hb (fun f hf => by rw [List.isEmpty_iff.mp c5] at hf; exact absurd hf List.not_mem_nil) (fun r M' hJ hp' => ?_)
  obtain ⟨v, rfl, hk⟩ := posts_ok c4 hp'
  obtain ⟨t0, t1, t2, t3⟩ := ht
  exact h v M' hk ⟨Iv_keep h8 hJ.2.1 hJ.2.2.1 c1, ⟨p, ⟨hp.1, hJ.2.2.2⟩, hJ.2.1⟩, t0, t1, by rw [(hJ.2.2.1 2 1 n1).1]; exact t2, by rw [(hJ.2.2.1 150 2 n2).1]; exact t3⟩ hJ.1 hJ.2.2.1
end INV
end
section
/-! the public methods over the states of the law -/
section PUB
theorem iV {v : Value} {Q : Prop} (h : rki v 0) (k : ∀ x : Int32, Value.int x = v → Q) : Q := by
  cases v with
  | int x => exact k x rfl
  | long x => cases h
  | _ => exact h.elim
theorem lV {v : Value} {Q : Prop} (h : rki v 1) (k : ∀ x : Int64, Value.long x = v → Q) : Q := by
  cases v with
  | int x => cases h
  | long x => exact k x rfl
  | _ => exact h.elim
theorem kpw {ms ms' : Md3} {M M' : Mm} (h : kp ms M M') (hs : ms.all (fun m => ina ms' m.1 m.2.1 m.2.2) = true) : kp ms' M M' := by
  intro a k hk
  refine h a k ?_
  cases hq : inm ms a k with
  | false => rfl
  | true =>
    obtain ⟨m, hm, h4⟩ := List.any_eq_true.mp hq
    obtain ⟨h4, h5⟩ := andT h4
    obtain ⟨h5, h6⟩ := andT h5
    have h7 := ina_in (List.all_eq_true.mp hs m hm) (Nat.le_of_ble_eq_true h5) (Nat.le_of_ble_eq_true h6)
    rw [Nat.eq_of_beq_eq_true h4] at h7
    rw [h7] at hk
    cases hk
variable {l : Launch} {X : Nat × (Nat → Int32)} {M : Mm} {kr : KR}
theorem p6_fault (d : Nat) (hL : LI M) (h : ∀ (x : Int32) (M' : Mm), LI M' → M'.1 = M.1 → kp Kc113.2.1 M M' → kr (some (.int x)) M') : Ev l X uX6_fault (d + 12) true 0 0 [.ref 1] M kr :=
  c6_of (t := 0) (vc113 (d + 12)) (by decide +kernel) hL ⟨⟨rfl, List.mem_singleton.mpr rfl⟩, trivial⟩ (fun v M' hv hL' h1 h2 => iV hv (fun x e => e ▸ h x M' hL' h1 h2))
theorem p6_where (d : Nat) (hL : LI M) (h : ∀ (x : Int32) (M' : Mm), LI M' → M'.1 = M.1 → kp Kc114.2.1 M M' → kr (some (.int x)) M') : Ev l X uX6_where (d + 12) true 0 0 [.ref 1] M kr :=
  c6_of (t := 0) (vc114 (d + 12)) (by decide +kernel) hL ⟨⟨rfl, List.mem_singleton.mpr rfl⟩, trivial⟩ (fun v M' hv hL' h1 h2 => iV hv (fun x e => e ▸ h x M' hL' h1 h2))
theorem p6_face (d : Nat) {x1 x2 : Int32} (hL : LI M) (h : ∀ (x : Int32) (M' : Mm), LI M' → M'.1 = M.1 → kp Kc118.2.1 M M' → kr (some (.int x)) M') : Ev l X uX6_face (d + 12) true 0 0 [.ref 1, .int x1, .int x2] M kr :=
  c6_of (t := 0) (vc118 (d + 11)) (by decide +kernel) hL ⟨⟨rfl, List.mem_singleton.mpr rfl⟩, ⟨⟨rfl, i32_lo _, i32_hi _⟩, ⟨⟨rfl, i32_lo _, i32_hi _⟩, trivial⟩⟩⟩ (fun v M' hv hL' h1 h2 => iV hv (fun x e => e ▸ h x M' hL' h1 h2))
theorem p6_canon (d : Nat) {x1 x2 : Int32} (hL : LI M) (h : ∀ (x : Int32) (M' : Mm), LI M' → M'.1 = M.1 → kp Kc120.2.1 M M' → kr (some (.int x)) M') : Ev l X uX6_canon (d + 12) true 0 0 [.ref 1, .int x1, .int x2] M kr :=
  c6_of (t := 0) (vc120 (d + 11)) (by decide +kernel) hL ⟨⟨rfl, List.mem_singleton.mpr rfl⟩, ⟨⟨rfl, i32_lo _, i32_hi _⟩, ⟨⟨rfl, i32_lo _, i32_hi _⟩, trivial⟩⟩⟩ (fun v M' hv hL' h1 h2 => iV hv (fun x e => e ▸ h x M' hL' h1 h2))
theorem p6_cell (d : Nat) {x1 x2 : Int32} (hL : LI M) (h : ∀ (x : Int32) (M' : Mm), LI M' → M'.1 = M.1 → kp Kc126.2.1 M M' → kr (some (.int x)) M') : Ev l X uX6_cell (d + 12) true 0 0 [.ref 1, .int x1, .int x2] M kr :=
  c6_of (t := 0) (vc126 (d + 10)) (by decide +kernel) hL ⟨⟨rfl, List.mem_singleton.mpr rfl⟩, ⟨⟨rfl, i32_lo _, i32_hi _⟩, ⟨⟨rfl, i32_lo _, i32_hi _⟩, trivial⟩⟩⟩ (fun v M' hv hL' h1 h2 => iV hv (fun x e => e ▸ h x M' hL' h1 h2))
theorem p6_burden (d : Nat) (hL : LI M) (h : ∀ (x : Int32) (M' : Mm), LI M' → M'.1 = M.1 → kp Kc128.2.1 M M' → kr (some (.int x)) M') : Ev l X uX6_burden (d + 12) true 0 0 [.ref 1] M kr :=
  c6_of (t := 0) (vc128 (d + 11)) (by decide +kernel) hL ⟨⟨rfl, List.mem_singleton.mpr rfl⟩, trivial⟩ (fun v M' hv hL' h1 h2 => iV hv (fun x e => e ▸ h x M' hL' h1 h2))
theorem p6_bears (d : Nat) {x1 x2 : Int32} (hL : LI M) (h : ∀ (x : Int32) (M' : Mm), LI M' → M'.1 = M.1 → kp Kc141.2.1 M M' → kr (some (.int x)) M') : Ev l X uX6_bears (d + 12) true 0 0 [.ref 1, .int x1, .int x2] M kr :=
  c6_of (t := 0) (vc141 (d + 9)) (by decide +kernel) hL ⟨⟨rfl, List.mem_singleton.mpr rfl⟩, ⟨⟨rfl, i32_lo _, i32_hi _⟩, ⟨⟨rfl, i32_lo _, i32_hi _⟩, trivial⟩⟩⟩ (fun v M' hv hL' h1 h2 => iV hv (fun x e => e ▸ h x M' hL' h1 h2))
theorem p6_holds (d : Nat) {x1 x2 : Int32} (hL : LI M) (h : ∀ (x : Int32) (M' : Mm), LI M' → M'.1 = M.1 → kp Kc142.2.1 M M' → kr (some (.int x)) M') : Ev l X uX6_holds (d + 12) true 0 0 [.ref 1, .int x1, .int x2] M kr :=
  c6_of (t := 0) (vc142 (d + 9)) (by decide +kernel) hL ⟨⟨rfl, List.mem_singleton.mpr rfl⟩, ⟨⟨rfl, i32_lo _, i32_hi _⟩, ⟨⟨rfl, i32_lo _, i32_hi _⟩, trivial⟩⟩⟩ (fun v M' hv hL' h1 h2 => iV hv (fun x e => e ▸ h x M' hL' h1 h2))
theorem p6_drops (d : Nat) {x1 x2 : Int32} (hL : LI M) (h : ∀ (x : Int32) (M' : Mm), LI M' → M'.1 = M.1 → kp Kc143.2.1 M M' → kr (some (.int x)) M') : Ev l X uX6_drops (d + 12) true 0 0 [.ref 1, .int x1, .int x2] M kr :=
  c6_of (t := 0) (vc143 (d + 9)) (by decide +kernel) hL ⟨⟨rfl, List.mem_singleton.mpr rfl⟩, ⟨⟨rfl, i32_lo _, i32_hi _⟩, ⟨⟨rfl, i32_lo _, i32_hi _⟩, trivial⟩⟩⟩ (fun v M' hv hL' h1 h2 => iV hv (fun x e => e ▸ h x M' hL' h1 h2))
theorem p6_dropsIn (d : Nat) {x1 : Int32} (hL : LI M) (h : ∀ (x : Int32) (M' : Mm), LI M' → M'.1 = M.1 → kp Kc145.2.1 M M' → kr (some (.int x)) M') : Ev l X uX6_dropsIn (d + 12) true 0 0 [.ref 1, .int x1] M kr :=
  c6_of (t := 0) (vc145 (d + 10)) (by decide +kernel) hL ⟨⟨rfl, List.mem_singleton.mpr rfl⟩, ⟨⟨rfl, i32_lo _, i32_hi _⟩, trivial⟩⟩ (fun v M' hv hL' h1 h2 => iV hv (fun x e => e ▸ h x M' hL' h1 h2))
theorem p6_fallsIn (d : Nat) {x1 : Int32} (hL : LI M) (h : ∀ (x : Int32) (M' : Mm), LI M' → M'.1 = M.1 → kp Kc146.2.1 M M' → kr (some (.int x)) M') : Ev l X uX6_fallsIn (d + 12) true 0 0 [.ref 1, .int x1] M kr :=
  c6_of (t := 0) (vc146 (d + 10)) (by decide +kernel) hL ⟨⟨rfl, List.mem_singleton.mpr rfl⟩, ⟨⟨rfl, i32_lo _, i32_hi _⟩, trivial⟩⟩ (fun v M' hv hL' h1 h2 => iV hv (fun x e => e ▸ h x M' hL' h1 h2))
theorem p6_wet (d : Nat) {x1 : Int32} (hL : LI M) (h : ∀ (x : Int32) (M' : Mm), LI M' → M'.1 = M.1 → kp Kc151.2.1 M M' → kr (some (.int x)) M') : Ev l X uX6_wet (d + 12) true 0 0 [.ref 1, .int x1] M kr :=
  c6_of (t := 0) (vc151 (d + 9)) (by decide +kernel) hL ⟨⟨rfl, List.mem_singleton.mpr rfl⟩, ⟨⟨rfl, i32_lo _, i32_hi _⟩, trivial⟩⟩ (fun v M' hv hL' h1 h2 => iV hv (fun x e => e ▸ h x M' hL' h1 h2))
theorem p6_wetDays (d : Nat) {x1 x2 : Int32} (hL : LI M) (h : ∀ (x : Int32) (M' : Mm), LI M' → M'.1 = M.1 → kp Kc153.2.1 M M' → kr (some (.int x)) M') : Ev l X uX6_wetDays (d + 12) true 0 0 [.ref 1, .int x1, .int x2] M kr :=
  c6_of (t := 0) (vc153 (d + 8)) (by decide +kernel) hL ⟨⟨rfl, List.mem_singleton.mpr rfl⟩, ⟨⟨rfl, i32_lo _, i32_hi _⟩, ⟨⟨rfl, i32_lo _, i32_hi _⟩, trivial⟩⟩⟩ (fun v M' hv hL' h1 h2 => iV hv (fun x e => e ▸ h x M' hL' h1 h2))
theorem p6_wettest (d : Nat) (hL : LI M) (h : ∀ (x : Int32) (M' : Mm), LI M' → M'.1 = M.1 → kp Kc158.2.1 M M' → kr (some (.int x)) M') : Ev l X uX6_wettest (d + 12) true 0 0 [.ref 1] M kr :=
  c6_of (t := 0) (vc158 (d + 8)) (by decide +kernel) hL ⟨⟨rfl, List.mem_singleton.mpr rfl⟩, trivial⟩ (fun v M' hv hL' h1 h2 => iV hv (fun x e => e ▸ h x M' hL' h1 h2))
theorem p6_sunny (d : Nat) (hL : LI M) (h : ∀ (x : Int32) (M' : Mm), LI M' → M'.1 = M.1 → kp Kc160.2.1 M M' → kr (some (.int x)) M') : Ev l X uX6_sunny (d + 12) true 0 0 [.ref 1] M kr :=
  c6_of (t := 0) (vc160 (d + 9)) (by decide +kernel) hL ⟨⟨rfl, List.mem_singleton.mpr rfl⟩, trivial⟩ (fun v M' hv hL' h1 h2 => iV hv (fun x e => e ▸ h x M' hL' h1 h2))
theorem p6_heaviest (d : Nat) (hL : LI M) (h : ∀ (x : Int32) (M' : Mm), LI M' → M'.1 = M.1 → kp Kc162.2.1 M M' → kr (some (.int x)) M') : Ev l X uX6_heaviest (d + 12) true 0 0 [.ref 1] M kr :=
  c6_of (t := 0) (vc162 (d + 10)) (by decide +kernel) hL ⟨⟨rfl, List.mem_singleton.mpr rfl⟩, trivial⟩ (fun v M' hv hL' h1 h2 => iV hv (fun x e => e ▸ h x M' hL' h1 h2))
theorem p6_fallen (d : Nat) {x1 : Int32} (hL : LI M) (h : ∀ (x : Int32) (M' : Mm), LI M' → M'.1 = M.1 → kp Kc164.2.1 M M' → kr (some (.int x)) M') : Ev l X uX6_fallen (d + 12) true 0 0 [.ref 1, .int x1] M kr :=
  c6_of (t := 0) (vc164 (d + 9)) (by decide +kernel) hL ⟨⟨rfl, List.mem_singleton.mpr rfl⟩, ⟨⟨rfl, i32_lo _, i32_hi _⟩, trivial⟩⟩ (fun v M' hv hL' h1 h2 => iV hv (fun x e => e ▸ h x M' hL' h1 h2))
theorem p6_dropsIf (d : Nat) {x1 x2 x3 : Int32} (hL : LI M) (h : ∀ (x : Int32) (M' : Mm), LI M' → M'.1 = M.1 → kp Kc170.2.1 M M' → kr (some (.int x)) M') : Ev l X uX6_dropsIf (d + 12) true 0 0 [.ref 1, .int x1, .int x2, .int x3] M kr :=
  c6_of (t := 0) (vc170 (d + 8)) (by decide +kernel) hL ⟨⟨rfl, List.mem_singleton.mpr rfl⟩, ⟨⟨rfl, i32_lo _, i32_hi _⟩, ⟨⟨rfl, i32_lo _, i32_hi _⟩, ⟨⟨rfl, i32_lo _, i32_hi _⟩, trivial⟩⟩⟩⟩ (fun v M' hv hL' h1 h2 => iV hv (fun x e => e ▸ h x M' hL' h1 h2))
theorem p6_faceFor (d : Nat) {x1 x2 : Int32} (hL : LI M) (h : ∀ (x : Int32) (M' : Mm), LI M' → M'.1 = M.1 → kp Kc171.2.1 M M' → kr (some (.int x)) M') : Ev l X uX6_faceFor (d + 12) true 0 0 [.ref 1, .int x1, .int x2] M kr :=
  c6_of (t := 0) (vc171 (d + 8)) (by decide +kernel) hL ⟨⟨rfl, List.mem_singleton.mpr rfl⟩, ⟨⟨rfl, i32_lo _, i32_hi _⟩, ⟨⟨rfl, i32_lo _, i32_hi _⟩, trivial⟩⟩⟩ (fun v M' hv hL' h1 h2 => iV hv (fun x e => e ▸ h x M' hL' h1 h2))
theorem p6_match (d : Nat) {x1 : Int32} (hL : LI M) (h : ∀ (x : Int32) (M' : Mm), LI M' → M'.1 = M.1 → kp Kc186.2.1 M M' → kr (some (.int x)) M') : Ev l X uX6_match (d + 12) true 0 0 [.ref 1, .int x1] M kr :=
  c6_of (t := 0) (vc186 (d + 3)) (by decide +kernel) hL ⟨⟨rfl, List.mem_singleton.mpr rfl⟩, ⟨⟨rfl, i32_lo _, i32_hi _⟩, trivial⟩⟩ (fun v M' hv hL' h1 h2 => iV hv (fun x e => e ▸ h x M' hL' h1 h2))
theorem p6_matchDrops (d : Nat) {x1 : Int32} (hL : LI M) (h : ∀ (x : Int32) (M' : Mm), LI M' → M'.1 = M.1 → kp Kc187.2.1 M M' → kr (some (.int x)) M') : Ev l X uX6_matchDrops (d + 12) true 0 0 [.ref 1, .int x1] M kr :=
  c6_of (t := 0) (vc187 (d + 3)) (by decide +kernel) hL ⟨⟨rfl, List.mem_singleton.mpr rfl⟩, ⟨⟨rfl, i32_lo _, i32_hi _⟩, trivial⟩⟩ (fun v M' hv hL' h1 h2 => iV hv (fun x e => e ▸ h x M' hL' h1 h2))
theorem p6_matchAt (d : Nat) {x1 x2 : Int32} (hL : LI M) (h : ∀ (x : Int32) (M' : Mm), LI M' → M'.1 = M.1 → kp Kc188.2.1 M M' → kr (some (.int x)) M') : Ev l X uX6_matchAt (d + 12) true 0 0 [.ref 1, .int x1, .int x2] M kr :=
  c6_of (t := 0) (vc188 (d + 3)) (by decide +kernel) hL ⟨⟨rfl, List.mem_singleton.mpr rfl⟩, ⟨⟨rfl, i32_lo _, i32_hi _⟩, ⟨⟨rfl, i32_lo _, i32_hi _⟩, trivial⟩⟩⟩ (fun v M' hv hL' h1 h2 => iV hv (fun x e => e ▸ h x M' hL' h1 h2))
theorem p6_steps (d : Nat) {x1 x2 : Int32} (hL : LI M) (h : ∀ (x : Int32) (M' : Mm), LI M' → M'.1 = M.1 → kp Kc191.2.1 M M' → kr (some (.int x)) M') : Ev l X uX6_steps (d + 12) true 0 0 [.ref 1, .int x1, .int x2] M kr :=
  c6_of (t := 0) (vc191 (d + 10)) (by decide +kernel) hL ⟨⟨rfl, List.mem_singleton.mpr rfl⟩, ⟨⟨rfl, i32_lo _, i32_hi _⟩, ⟨⟨rfl, i32_lo _, i32_hi _⟩, trivial⟩⟩⟩ (fun v M' hv hL' h1 h2 => iV hv (fun x e => e ▸ h x M' hL' h1 h2))
theorem p6_wets (d : Nat) {x1 x2 : Int32} (hL : LI M) (h : ∀ (x : Int32) (M' : Mm), LI M' → M'.1 = M.1 → kp Kc204.2.1 M M' → kr (some (.int x)) M') : Ev l X uX6_wets (d + 12) true 0 0 [.ref 1, .int x1, .int x2] M kr :=
  c6_of (t := 0) (vc204 (d + 7)) (by decide +kernel) hL ⟨⟨rfl, List.mem_singleton.mpr rfl⟩, ⟨⟨rfl, i32_lo _, i32_hi _⟩, ⟨⟨rfl, i32_lo _, i32_hi _⟩, trivial⟩⟩⟩ (fun v M' hv hL' h1 h2 => iV hv (fun x e => e ▸ h x M' hL' h1 h2))
theorem p6_way (d : Nat) {x1 x2 : Int32} (hL : LI M) (h : ∀ (x : Int32) (M' : Mm), LI M' → M'.1 = M.1 → kp Kc205.2.1 M M' → kr (some (.int x)) M') : Ev l X uX6_way (d + 12) true 0 0 [.ref 1, .int x1, .int x2] M kr :=
  c6_of (t := 0) (vc205 (d + 7)) (by decide +kernel) hL ⟨⟨rfl, List.mem_singleton.mpr rfl⟩, ⟨⟨rfl, i32_lo _, i32_hi _⟩, ⟨⟨rfl, i32_lo _, i32_hi _⟩, trivial⟩⟩⟩ (fun v M' hv hL' h1 h2 => iV hv (fun x e => e ▸ h x M' hL' h1 h2))
theorem p6_wayAt (d : Nat) {x1 x2 x3 : Int32} (hL : LI M) (h : ∀ (x : Int32) (M' : Mm), LI M' → M'.1 = M.1 → kp Kc207.2.1 M M' → kr (some (.int x)) M') : Ev l X uX6_wayAt (d + 12) true 0 0 [.ref 1, .int x1, .int x2, .int x3] M kr :=
  c6_of (t := 0) (vc207 (d + 7)) (by decide +kernel) hL ⟨⟨rfl, List.mem_singleton.mpr rfl⟩, ⟨⟨rfl, i32_lo _, i32_hi _⟩, ⟨⟨rfl, i32_lo _, i32_hi _⟩, ⟨⟨rfl, i32_lo _, i32_hi _⟩, trivial⟩⟩⟩⟩ (fun v M' hv hL' h1 h2 => iV hv (fun x e => e ▸ h x M' hL' h1 h2))
end PUB
end
section
section PUB
variable {l : Launch} {X : Nat × (Nat → Int32)} {M : Mm} {kr : KR}
theorem p6_dryDay (d : Nat) {x1 : Int32} (hL : LI M) (h : ∀ (x : Int32) (M' : Mm), LI M' → M'.1 = M.1 → kp Kc208.2.1 M M' → kr (some (.int x)) M') : Ev l X uX6_dryDay (d + 12) true 0 0 [.ref 1, .int x1] M kr :=
  c6_of (t := 0) (vc208 (d + 9)) (by decide +kernel) hL ⟨⟨rfl, List.mem_singleton.mpr rfl⟩, ⟨⟨rfl, i32_lo _, i32_hi _⟩, trivial⟩⟩ (fun v M' hv hL' h1 h2 => iV hv (fun x e => e ▸ h x M' hL' h1 h2))
theorem p6_gate (d : Nat) (hL : LI M) (h : ∀ (x : Int32) (M' : Mm), LI M' → M'.1 = M.1 → kp Kc210.2.1 M M' → kr (some (.int x)) M') : Ev l X uX6_gate (d + 12) true 0 0 [.ref 1] M kr :=
  c6_of (t := 0) (vc210 (d + 9)) (by decide +kernel) hL ⟨⟨rfl, List.mem_singleton.mpr rfl⟩, trivial⟩ (fun v M' hv hL' h1 h2 => iV hv (fun x e => e ▸ h x M' hL' h1 h2))
theorem p6_fits (d : Nat) (hL : LI M) (h : ∀ (x : Int32) (M' : Mm), LI M' → M'.1 = M.1 → kp Kc217.2.1 M M' → kr (some (.int x)) M') : Ev l X uX6_fits (d + 12) true 0 0 [.ref 1] M kr :=
  c6_of (t := 0) (vc217 (d + 7)) (by decide +kernel) hL ⟨⟨rfl, List.mem_singleton.mpr rfl⟩, trivial⟩ (fun v M' hv hL' h1 h2 => iV hv (fun x e => e ▸ h x M' hL' h1 h2))
theorem p6_fitAt (d : Nat) {x1 : Int32} (hL : LI M) (h : ∀ (x : Int32) (M' : Mm), LI M' → M'.1 = M.1 → kp Kc218.2.1 M M' → kr (some (.int x)) M') : Ev l X uX6_fitAt (d + 12) true 0 0 [.ref 1, .int x1] M kr :=
  c6_of (t := 0) (vc218 (d + 7)) (by decide +kernel) hL ⟨⟨rfl, List.mem_singleton.mpr rfl⟩, ⟨⟨rfl, i32_lo _, i32_hi _⟩, trivial⟩⟩ (fun v M' hv hL' h1 h2 => iV hv (fun x e => e ▸ h x M' hL' h1 h2))
theorem p6_could (d : Nat) (hL : LI M) (h : ∀ (x : Int32) (M' : Mm), LI M' → M'.1 = M.1 → kp Kc220.2.1 M M' → kr (some (.int x)) M') : Ev l X uX6_could (d + 12) true 0 0 [.ref 1] M kr :=
  c6_of (t := 0) (vc220 (d + 7)) (by decide +kernel) hL ⟨⟨rfl, List.mem_singleton.mpr rfl⟩, trivial⟩ (fun v M' hv hL' h1 h2 => iV hv (fun x e => e ▸ h x M' hL' h1 h2))
theorem p6_surely (d : Nat) (hL : LI M) (h : ∀ (x : Int32) (M' : Mm), LI M' → M'.1 = M.1 → kp Kc221.2.1 M M' → kr (some (.int x)) M') : Ev l X uX6_surely (d + 12) true 0 0 [.ref 1] M kr :=
  c6_of (t := 0) (vc221 (d + 7)) (by decide +kernel) hL ⟨⟨rfl, List.mem_singleton.mpr rfl⟩, trivial⟩ (fun v M' hv hL' h1 h2 => iV hv (fun x e => e ▸ h x M' hL' h1 h2))
theorem p6_ask (d : Nat) (hL : LI M) (h : ∀ (x : Int32) (M' : Mm), LI M' → M'.1 = M.1 → kp Kc225.2.1 M M' → kr (some (.int x)) M') : Ev l X uX6_ask (d + 12) true 0 0 [.ref 1] M kr :=
  c6_of (t := 0) (vc225 (d + 7)) (by decide +kernel) hL ⟨⟨rfl, List.mem_singleton.mpr rfl⟩, trivial⟩ (fun v M' hv hL' h1 h2 => iV hv (fun x e => e ▸ h x M' hL' h1 h2))
theorem p6_askLeaves (d : Nat) (hL : LI M) (h : ∀ (x : Int32) (M' : Mm), LI M' → M'.1 = M.1 → kp Kc226.2.1 M M' → kr (some (.int x)) M') : Ev l X uX6_askLeaves (d + 12) true 0 0 [.ref 1] M kr :=
  c6_of (t := 0) (vc226 (d + 7)) (by decide +kernel) hL ⟨⟨rfl, List.mem_singleton.mpr rfl⟩, trivial⟩ (fun v M' hv hL' h1 h2 => iV hv (fun x e => e ▸ h x M' hL' h1 h2))
theorem p6_judge (d : Nat) (hL : LI M) (h : ∀ (x : Int32) (M' : Mm), LI M' → M'.1 = M.1 → kp Kc230.2.1 M M' → kr (some (.int x)) M') : Ev l X uX6_judge (d + 12) true 0 0 [.ref 1] M kr :=
  c6_of (t := 0) (vc230 (d + 9)) (by decide +kernel) hL ⟨⟨rfl, List.mem_singleton.mpr rfl⟩, trivial⟩ (fun v M' hv hL' h1 h2 => iV hv (fun x e => e ▸ h x M' hL' h1 h2))
theorem p6_sulks (d : Nat) {x1 x2 x3 x4 : Int32} (hL : LI M) (h : ∀ (x : Int32) (M' : Mm), LI M' → M'.1 = M.1 → kp Kc235.2.1 M M' → kr (some (.int x)) M') : Ev l X uX6_sulks (d + 12) true 0 0 [.ref 1, .int x1, .int x2, .int x3, .int x4] M kr :=
  c6_of (t := 0) (vc235 (d + 8)) (by decide +kernel) hL ⟨⟨rfl, List.mem_singleton.mpr rfl⟩, ⟨⟨rfl, i32_lo _, i32_hi _⟩, ⟨⟨rfl, i32_lo _, i32_hi _⟩, ⟨⟨rfl, i32_lo _, i32_hi _⟩, ⟨⟨rfl, i32_lo _, i32_hi _⟩, trivial⟩⟩⟩⟩⟩ (fun v M' hv hL' h1 h2 => iV hv (fun x e => e ▸ h x M' hL' h1 h2))
theorem p6_rests (d : Nat) {x1 : Int32} (hL : LI M) (h : ∀ (x : Int32) (M' : Mm), LI M' → M'.1 = M.1 → kp Kc237.2.1 M M' → kr (some (.int x)) M') : Ev l X uX6_rests (d + 12) true 0 0 [.ref 1, .int x1] M kr :=
  c6_of (t := 0) (vc237 (d + 8)) (by decide +kernel) hL ⟨⟨rfl, List.mem_singleton.mpr rfl⟩, ⟨⟨rfl, i32_lo _, i32_hi _⟩, trivial⟩⟩ (fun v M' hv hL' h1 h2 => iV hv (fun x e => e ▸ h x M' hL' h1 h2))
theorem p6_rest (d : Nat) {x1 : Int32} (hL : LI M) (h : ∀ (x : Int32) (M' : Mm), LI M' → M'.1 = M.1 → kp Kc238.2.1 M M' → kr (some (.int x)) M') : Ev l X uX6_rest (d + 12) true 0 0 [.ref 1, .int x1] M kr :=
  c6_of (t := 0) (vc238 (d + 8)) (by decide +kernel) hL ⟨⟨rfl, List.mem_singleton.mpr rfl⟩, ⟨⟨rfl, i32_lo _, i32_hi _⟩, trivial⟩⟩ (fun v M' hv hL' h1 h2 => iV hv (fun x e => e ▸ h x M' hL' h1 h2))
theorem p6_odds (d : Nat) {x1 x2 x3 : Int32} (hL : LI M) (h : ∀ (x : Int64) (M' : Mm), LI M' → M'.1 = M.1 → kp Kc244.2.1 M M' → kr (some (.long x)) M') : Ev l X uX6_odds (d + 12) true 0 0 [.ref 1, .int x1, .int x2, .int x3] M kr :=
  c6_of (t := 1) (vc244 (d + 9)) (by decide +kernel) hL ⟨⟨rfl, List.mem_singleton.mpr rfl⟩, ⟨⟨rfl, i32_lo _, i32_hi _⟩, ⟨⟨rfl, i32_lo _, i32_hi _⟩, ⟨⟨rfl, i32_lo _, i32_hi _⟩, trivial⟩⟩⟩⟩ (fun v M' hv hL' h1 h2 => lV hv (fun x e => e ▸ h x M' hL' h1 h2))
theorem p6_mean (d : Nat) {x1 x2 x3 : Int32} (hL : LI M) (h : ∀ (x : Int64) (M' : Mm), LI M' → M'.1 = M.1 → kp Kc246.2.1 M M' → kr (some (.long x)) M') : Ev l X uX6_mean (d + 12) true 0 0 [.ref 1, .int x1, .int x2, .int x3] M kr :=
  c6_of (t := 1) (vc246 (d + 9)) (by decide +kernel) hL ⟨⟨rfl, List.mem_singleton.mpr rfl⟩, ⟨⟨rfl, i32_lo _, i32_hi _⟩, ⟨⟨rfl, i32_lo _, i32_hi _⟩, ⟨⟨rfl, i32_lo _, i32_hi _⟩, trivial⟩⟩⟩⟩ (fun v M' hv hL' h1 h2 => lV hv (fun x e => e ▸ h x M' hL' h1 h2))
theorem p6_borne (d : Nat) {x1 x2 x3 : Int32} (hL : LI M) (h : ∀ (x : Int32) (M' : Mm), LI M' → M'.1 = M.1 → kp Kc250.2.1 M M' → kr (some (.int x)) M') : Ev l X uX6_borne (d + 12) true 0 0 [.ref 1, .int x1, .int x2, .int x3] M kr :=
  c6_of (t := 0) (vc250 (d + 10)) (by decide +kernel) hL ⟨⟨rfl, List.mem_singleton.mpr rfl⟩, ⟨⟨rfl, i32_lo _, i32_hi _⟩, ⟨⟨rfl, i32_lo _, i32_hi _⟩, ⟨⟨rfl, i32_lo _, i32_hi _⟩, trivial⟩⟩⟩⟩ (fun v M' hv hL' h1 h2 => iV hv (fun x e => e ▸ h x M' hL' h1 h2))
theorem p6_firstWet (d : Nat) {x1 x2 : Int32} (hL : LI M) (h : ∀ (x : Int32) (M' : Mm), LI M' → M'.1 = M.1 → kp Kc252.2.1 M M' → kr (some (.int x)) M') : Ev l X uX6_firstWet (d + 12) true 0 0 [.ref 1, .int x1, .int x2] M kr :=
  c6_of (t := 0) (vc252 (d + 9)) (by decide +kernel) hL ⟨⟨rfl, List.mem_singleton.mpr rfl⟩, ⟨⟨rfl, i32_lo _, i32_hi _⟩, ⟨⟨rfl, i32_lo _, i32_hi _⟩, trivial⟩⟩⟩ (fun v M' hv hL' h1 h2 => iV hv (fun x e => e ▸ h x M' hL' h1 h2))
theorem p6_day (d : Nat) (hL : LI M) (h : ∀ (x : Int32) (M' : Mm), LI M' → M'.1 = M.1 → kp Kc256.2.1 M M' → kr (some (.int x)) M') : Ev l X uX6_day (d + 12) true 0 0 [.ref 1] M kr :=
  c6_of (t := 0) (vc256 (d + 9)) (by decide +kernel) hL ⟨⟨rfl, List.mem_singleton.mpr rfl⟩, trivial⟩ (fun v M' hv hL' h1 h2 => iV hv (fun x e => e ▸ h x M' hL' h1 h2))
theorem p6_give (d : Nat) {x1 x2 : Int32} (hL : LI M) (h : ∀ (x : Int32) (M' : Mm), LI M' → M'.1 = M.1 → kp Kc257.2.1 M M' → kr (some (.int x)) M') : Ev l X uX6_give (d + 12) true 0 0 [.ref 1, .int x1, .int x2] M kr :=
  c6_of (t := 0) (vc257 (d + 9)) (by decide +kernel) hL ⟨⟨rfl, List.mem_singleton.mpr rfl⟩, ⟨⟨rfl, i32_lo _, i32_hi _⟩, ⟨⟨rfl, i32_lo _, i32_hi _⟩, trivial⟩⟩⟩ (fun v M' hv hL' h1 h2 => iV hv (fun x e => e ▸ h x M' hL' h1 h2))
theorem p6_mend (d : Nat) {x1 : Int32} (hL : LI M) (h : ∀ (x : Int32) (M' : Mm), LI M' → M'.1 = M.1 → kp Kc258.2.1 M M' → kr (some (.int x)) M') : Ev l X uX6_mend (d + 12) true 0 0 [.ref 1, .int x1] M kr :=
  c6_of (t := 0) (vc258 (d + 9)) (by decide +kernel) hL ⟨⟨rfl, List.mem_singleton.mpr rfl⟩, ⟨⟨rfl, i32_lo _, i32_hi _⟩, trivial⟩⟩ (fun v M' hv hL' h1 h2 => iV hv (fun x e => e ▸ h x M' hL' h1 h2))
theorem p6_vex (d : Nat) {x1 x2 : Int32} (hL : LI M) (h : ∀ (x : Int32) (M' : Mm), LI M' → M'.1 = M.1 → kp Kc259.2.1 M M' → kr (some (.int x)) M') : Ev l X uX6_vex (d + 12) true 0 0 [.ref 1, .int x1, .int x2] M kr :=
  c6_of (t := 0) (vc259 (d + 9)) (by decide +kernel) hL ⟨⟨rfl, List.mem_singleton.mpr rfl⟩, ⟨⟨rfl, i32_lo _, i32_hi _⟩, ⟨⟨rfl, i32_lo _, i32_hi _⟩, trivial⟩⟩⟩ (fun v M' hv hL' h1 h2 => iV hv (fun x e => e ▸ h x M' hL' h1 h2))
theorem p6_undo (d : Nat) (hL : LI M) (h : ∀ (x : Int32) (M' : Mm), LI M' → M'.1 = M.1 → kp Kc261.2.1 M M' → kr (some (.int x)) M') : Ev l X uX6_undo (d + 12) true 0 0 [.ref 1] M kr :=
  c6_of (t := 0) (vc261 (d + 10)) (by decide +kernel) hL ⟨⟨rfl, List.mem_singleton.mpr rfl⟩, trivial⟩ (fun v M' hv hL' h1 h2 => iV hv (fun x e => e ▸ h x M' hL' h1 h2))
theorem p6_image (d : Nat) (hL : LI M) (h : ∀ (x : Int32) (M' : Mm), LI M' → M'.1 = M.1 → kp Kc263.2.1 M M' → kr (some (.int x)) M') : Ev l X uX6_image (d + 12) true 0 0 [.ref 1] M kr :=
  c6_of (t := 0) (vc263 (d + 10)) (by decide +kernel) hL ⟨⟨rfl, List.mem_singleton.mpr rfl⟩, trivial⟩ (fun v M' hv hL' h1 h2 => iV hv (fun x e => e ▸ h x M' hL' h1 h2))
theorem p6_back (d : Nat) {x1 : Int32} (hL : LI M) (h : ∀ (x : Int32) (M' : Mm), LI M' → M'.1 = M.1 → kp Kc265.2.1 M M' → kr (some (.int x)) M') : Ev l X uX6_back (d + 12) true 0 0 [.ref 1, .int x1] M kr :=
  c6_of (t := 0) (vc265 (d + 10)) (by decide +kernel) hL ⟨⟨rfl, List.mem_singleton.mpr rfl⟩, ⟨⟨rfl, i32_lo _, i32_hi _⟩, trivial⟩⟩ (fun v M' hv hL' h1 h2 => iV hv (fun x e => e ▸ h x M' hL' h1 h2))
theorem p6_size (d : Nat) {x1 : Int32} (hL : LI M) (h : ∀ (x : Int32) (M' : Mm), LI M' → M'.1 = M.1 → kp Kc268.2.1 M M' → kr (some (.int x)) M') : Ev l X uX6_size (d + 12) true 0 0 [.ref 1, .int x1] M kr :=
  c6_of (t := 0) (vc268 (d + 10)) (by decide +kernel) hL ⟨⟨rfl, List.mem_singleton.mpr rfl⟩, ⟨⟨rfl, i32_lo _, i32_hi _⟩, trivial⟩⟩ (fun v M' hv hL' h1 h2 => iV hv (fun x e => e ▸ h x M' hL' h1 h2))
theorem p6_trouble (d : Nat) (hL : LI M) (h : ∀ (x : Int32) (M' : Mm), LI M' → M'.1 = M.1 → kp Kc269.2.1 M M' → kr (some (.int x)) M') : Ev l X uX6_trouble (d + 12) true 0 0 [.ref 1] M kr :=
  c6_of (t := 0) (vc269 (d + 12)) (by decide +kernel) hL ⟨⟨rfl, List.mem_singleton.mpr rfl⟩, trivial⟩ (fun v M' hv hL' h1 h2 => iV hv (fun x e => e ▸ h x M' hL' h1 h2))
end PUB
end
section
section PUB
variable {l : Launch} {X : Nat × (Nat → Int32)} {M : Mm} {kr : KR}
noncomputable def m7_face : Md3 := [(150, 0, 0), (150, 11, 11)]
theorem p7_face (d : Nat) {x1 x2 : Int32} (hL : LI M) (h : ∀ (x : Int32) (M' : Mm), LI M' → M'.1 = M.1 → kp m7_face M M' → kr (some (.int x)) M') : Ev l X uX7_face (d + 12) true 0 0 [.ref 150, .int x1, .int x2] M kr := by
  obtain ⟨h8, ⟨p, hp, hI⟩, ht⟩ := hL
  rcases lt2 hp.1 with rfl | rfl
  · exact r7_of1 (K := Kc276) (t := 0) hp (vc276 (d + 10)) (by decide +kernel) h8 hI ht ⟨⟨rfl, List.mem_singleton.mpr rfl⟩, ⟨⟨rfl, i32_lo _, i32_hi _⟩, ⟨⟨rfl, i32_lo _, i32_hi _⟩, trivial⟩⟩⟩ (fun v M' hv hL' h1 h2 => iV hv (fun x e => e ▸ h x M' hL' h1 (kpw h2 (by decide +kernel))))
  · exact r7_of1 (K := Kc434) (t := 0) hp (vc434 (d + 10)) (by decide +kernel) h8 hI ht ⟨⟨rfl, List.mem_singleton.mpr rfl⟩, ⟨⟨rfl, i32_lo _, i32_hi _⟩, ⟨⟨rfl, i32_lo _, i32_hi _⟩, trivial⟩⟩⟩ (fun v M' hv hL' h1 h2 => iV hv (fun x e => e ▸ h x M' hL' h1 (kpw h2 (by decide +kernel))))
noncomputable def m7_canon : Md3 := [(150, 0, 0), (150, 11, 11)]
theorem p7_canon (d : Nat) {x1 x2 : Int32} (hL : LI M) (h : ∀ (x : Int32) (M' : Mm), LI M' → M'.1 = M.1 → kp m7_canon M M' → kr (some (.int x)) M') : Ev l X uX7_canon (d + 12) true 0 0 [.ref 150, .int x1, .int x2] M kr := by
  obtain ⟨h8, ⟨p, hp, hI⟩, ht⟩ := hL
  rcases lt2 hp.1 with rfl | rfl
  · exact r7_of1 (K := Kc280) (t := 0) hp (vc280 (d + 10)) (by decide +kernel) h8 hI ht ⟨⟨rfl, List.mem_singleton.mpr rfl⟩, ⟨⟨rfl, i32_lo _, i32_hi _⟩, ⟨⟨rfl, i32_lo _, i32_hi _⟩, trivial⟩⟩⟩ (fun v M' hv hL' h1 h2 => iV hv (fun x e => e ▸ h x M' hL' h1 (kpw h2 (by decide +kernel))))
  · exact r7_of1 (K := Kc436) (t := 0) hp (vc436 (d + 10)) (by decide +kernel) h8 hI ht ⟨⟨rfl, List.mem_singleton.mpr rfl⟩, ⟨⟨rfl, i32_lo _, i32_hi _⟩, ⟨⟨rfl, i32_lo _, i32_hi _⟩, trivial⟩⟩⟩ (fun v M' hv hL' h1 h2 => iV hv (fun x e => e ▸ h x M' hL' h1 (kpw h2 (by decide +kernel))))
noncomputable def m7_cell : Md3 := [(150, 0, 0), (150, 11, 11), (150, 26, 26)]
theorem p7_cell (d : Nat) {x1 x2 : Int32} (hL : LI M) (h : ∀ (x : Int32) (M' : Mm), LI M' → M'.1 = M.1 → kp m7_cell M M' → kr (some (.int x)) M') : Ev l X uX7_cell (d + 12) true 0 0 [.ref 150, .int x1, .int x2] M kr := by
  obtain ⟨h8, ⟨p, hp, hI⟩, ht⟩ := hL
  rcases lt2 hp.1 with rfl | rfl
  · exact r7_of1 (K := Kc292) (t := 0) hp (vc292 (d + 8)) (by decide +kernel) h8 hI ht ⟨⟨rfl, List.mem_singleton.mpr rfl⟩, ⟨⟨rfl, i32_lo _, i32_hi _⟩, ⟨⟨rfl, i32_lo _, i32_hi _⟩, trivial⟩⟩⟩ (fun v M' hv hL' h1 h2 => iV hv (fun x e => e ▸ h x M' hL' h1 (kpw h2 (by decide +kernel))))
  · exact r7_of1 (K := Kc438) (t := 0) hp (vc438 (d + 10)) (by decide +kernel) h8 hI ht ⟨⟨rfl, List.mem_singleton.mpr rfl⟩, ⟨⟨rfl, i32_lo _, i32_hi _⟩, ⟨⟨rfl, i32_lo _, i32_hi _⟩, trivial⟩⟩⟩ (fun v M' hv hL' h1 h2 => iV hv (fun x e => e ▸ h x M' hL' h1 (kpw h2 (by decide +kernel))))
noncomputable def m7_burden : Md3 := [(150, 0, 0), (150, 11, 11)]
theorem p7_burden (d : Nat) (hL : LI M) (h : ∀ (x : Int32) (M' : Mm), LI M' → M'.1 = M.1 → kp m7_burden M M' → kr (some (.int x)) M') : Ev l X uX7_burden (d + 12) true 0 0 [.ref 150] M kr := by
  obtain ⟨h8, ⟨p, hp, hI⟩, ht⟩ := hL
  rcases lt2 hp.1 with rfl | rfl
  · exact r7_of1 (K := Kc293) (t := 0) hp (vc293 (d + 11)) (by decide +kernel) h8 hI ht ⟨⟨rfl, List.mem_singleton.mpr rfl⟩, trivial⟩ (fun v M' hv hL' h1 h2 => iV hv (fun x e => e ▸ h x M' hL' h1 (kpw h2 (by decide +kernel))))
  · exact r7_of1 (K := Kc439) (t := 0) hp (vc439 (d + 11)) (by decide +kernel) h8 hI ht ⟨⟨rfl, List.mem_singleton.mpr rfl⟩, trivial⟩ (fun v M' hv hL' h1 h2 => iV hv (fun x e => e ▸ h x M' hL' h1 (kpw h2 (by decide +kernel))))
noncomputable def m7_bears : Md3 := [(150, 0, 0), (150, 11, 11), (160, 0, 4), (161, 0, 24)]
theorem p7_bears (d : Nat) {x1 x2 : Int32} (hL : LI M) (h : ∀ (x : Int32) (M' : Mm), LI M' → M'.1 = M.1 → kp m7_bears M M' → kr (some (.int x)) M') : Ev l X uX7_bears (d + 12) true 0 0 [.ref 150, .int x1, .int x2] M kr := by
  obtain ⟨h8, ⟨p, hp, hI⟩, ht⟩ := hL
  rcases lt2 hp.1 with rfl | rfl
  · exact r7_of1 (K := Kc311) (t := 0) hp (vc311 (d + 9)) (by decide +kernel) h8 hI ht ⟨⟨rfl, List.mem_singleton.mpr rfl⟩, ⟨⟨rfl, i32_lo _, i32_hi _⟩, ⟨⟨rfl, i32_lo _, i32_hi _⟩, trivial⟩⟩⟩ (fun v M' hv hL' h1 h2 => iV hv (fun x e => e ▸ h x M' hL' h1 (kpw h2 (by decide +kernel))))
  · exact r7_of1 (K := Kc444) (t := 0) hp (vc444 (d + 10)) (by decide +kernel) h8 hI ht ⟨⟨rfl, List.mem_singleton.mpr rfl⟩, ⟨⟨rfl, i32_lo _, i32_hi _⟩, ⟨⟨rfl, i32_lo _, i32_hi _⟩, trivial⟩⟩⟩ (fun v M' hv hL' h1 h2 => iV hv (fun x e => e ▸ h x M' hL' h1 (kpw h2 (by decide +kernel))))
noncomputable def m7_holds : Md3 := [(150, 0, 0), (150, 11, 11), (160, 0, 4), (161, 0, 24)]
theorem p7_holds (d : Nat) {x1 x2 : Int32} (hL : LI M) (h : ∀ (x : Int32) (M' : Mm), LI M' → M'.1 = M.1 → kp m7_holds M M' → kr (some (.int x)) M') : Ev l X uX7_holds (d + 12) true 0 0 [.ref 150, .int x1, .int x2] M kr := by
  obtain ⟨h8, ⟨p, hp, hI⟩, ht⟩ := hL
  rcases lt2 hp.1 with rfl | rfl
  · exact r7_of1 (K := Kc312) (t := 0) hp (vc312 (d + 9)) (by decide +kernel) h8 hI ht ⟨⟨rfl, List.mem_singleton.mpr rfl⟩, ⟨⟨rfl, i32_lo _, i32_hi _⟩, ⟨⟨rfl, i32_lo _, i32_hi _⟩, trivial⟩⟩⟩ (fun v M' hv hL' h1 h2 => iV hv (fun x e => e ▸ h x M' hL' h1 (kpw h2 (by decide +kernel))))
  · exact r7_of1 (K := Kc445) (t := 0) hp (vc445 (d + 10)) (by decide +kernel) h8 hI ht ⟨⟨rfl, List.mem_singleton.mpr rfl⟩, ⟨⟨rfl, i32_lo _, i32_hi _⟩, ⟨⟨rfl, i32_lo _, i32_hi _⟩, trivial⟩⟩⟩ (fun v M' hv hL' h1 h2 => iV hv (fun x e => e ▸ h x M' hL' h1 (kpw h2 (by decide +kernel))))
noncomputable def m7_drops : Md3 := [(150, 0, 0), (150, 11, 11), (160, 0, 4), (161, 0, 24)]
theorem p7_drops (d : Nat) {x1 x2 : Int32} (hL : LI M) (h : ∀ (x : Int32) (M' : Mm), LI M' → M'.1 = M.1 → kp m7_drops M M' → kr (some (.int x)) M') : Ev l X uX7_drops (d + 12) true 0 0 [.ref 150, .int x1, .int x2] M kr := by
  obtain ⟨h8, ⟨p, hp, hI⟩, ht⟩ := hL
  rcases lt2 hp.1 with rfl | rfl
  · exact r7_of1 (K := Kc313) (t := 0) hp (vc313 (d + 9)) (by decide +kernel) h8 hI ht ⟨⟨rfl, List.mem_singleton.mpr rfl⟩, ⟨⟨rfl, i32_lo _, i32_hi _⟩, ⟨⟨rfl, i32_lo _, i32_hi _⟩, trivial⟩⟩⟩ (fun v M' hv hL' h1 h2 => iV hv (fun x e => e ▸ h x M' hL' h1 (kpw h2 (by decide +kernel))))
  · exact r7_of1 (K := Kc446) (t := 0) hp (vc446 (d + 10)) (by decide +kernel) h8 hI ht ⟨⟨rfl, List.mem_singleton.mpr rfl⟩, ⟨⟨rfl, i32_lo _, i32_hi _⟩, ⟨⟨rfl, i32_lo _, i32_hi _⟩, trivial⟩⟩⟩ (fun v M' hv hL' h1 h2 => iV hv (fun x e => e ▸ h x M' hL' h1 (kpw h2 (by decide +kernel))))
noncomputable def m7_dropsIn : Md3 := [(150, 0, 0), (150, 11, 11), (160, 0, 4), (161, 0, 24)]
theorem p7_dropsIn (d : Nat) {x1 : Int32} (hL : LI M) (h : ∀ (x : Int32) (M' : Mm), LI M' → M'.1 = M.1 → kp m7_dropsIn M M' → kr (some (.int x)) M') : Ev l X uX7_dropsIn (d + 12) true 0 0 [.ref 150, .int x1] M kr := by
  obtain ⟨h8, ⟨p, hp, hI⟩, ht⟩ := hL
  rcases lt2 hp.1 with rfl | rfl
  · exact r7_of1 (K := Kc314) (t := 0) hp (vc314 (d + 9)) (by decide +kernel) h8 hI ht ⟨⟨rfl, List.mem_singleton.mpr rfl⟩, ⟨⟨rfl, i32_lo _, i32_hi _⟩, trivial⟩⟩ (fun v M' hv hL' h1 h2 => iV hv (fun x e => e ▸ h x M' hL' h1 (kpw h2 (by decide +kernel))))
  · exact r7_of1 (K := Kc447) (t := 0) hp (vc447 (d + 10)) (by decide +kernel) h8 hI ht ⟨⟨rfl, List.mem_singleton.mpr rfl⟩, ⟨⟨rfl, i32_lo _, i32_hi _⟩, trivial⟩⟩ (fun v M' hv hL' h1 h2 => iV hv (fun x e => e ▸ h x M' hL' h1 (kpw h2 (by decide +kernel))))
end PUB
end
section
section PUB
variable {l : Launch} {X : Nat × (Nat → Int32)} {M : Mm} {kr : KR}
noncomputable def m7_fallsIn : Md3 := [(150, 0, 0), (150, 11, 11), (160, 0, 4), (161, 0, 24)]
theorem p7_fallsIn (d : Nat) {x1 : Int32} (hL : LI M) (h : ∀ (x : Int32) (M' : Mm), LI M' → M'.1 = M.1 → kp m7_fallsIn M M' → kr (some (.int x)) M') : Ev l X uX7_fallsIn (d + 12) true 0 0 [.ref 150, .int x1] M kr := by
  obtain ⟨h8, ⟨p, hp, hI⟩, ht⟩ := hL
  rcases lt2 hp.1 with rfl | rfl
  · exact r7_of1 (K := Kc315) (t := 0) hp (vc315 (d + 9)) (by decide +kernel) h8 hI ht ⟨⟨rfl, List.mem_singleton.mpr rfl⟩, ⟨⟨rfl, i32_lo _, i32_hi _⟩, trivial⟩⟩ (fun v M' hv hL' h1 h2 => iV hv (fun x e => e ▸ h x M' hL' h1 (kpw h2 (by decide +kernel))))
  · exact r7_of1 (K := Kc448) (t := 0) hp (vc448 (d + 10)) (by decide +kernel) h8 hI ht ⟨⟨rfl, List.mem_singleton.mpr rfl⟩, ⟨⟨rfl, i32_lo _, i32_hi _⟩, trivial⟩⟩ (fun v M' hv hL' h1 h2 => iV hv (fun x e => e ▸ h x M' hL' h1 (kpw h2 (by decide +kernel))))
noncomputable def m7_wet : Md3 := [(150, 0, 0), (150, 11, 11), (160, 0, 4), (161, 0, 24)]
theorem p7_wet (d : Nat) {x1 : Int32} (hL : LI M) (h : ∀ (x : Int32) (M' : Mm), LI M' → M'.1 = M.1 → kp m7_wet M M' → kr (some (.int x)) M') : Ev l X uX7_wet (d + 12) true 0 0 [.ref 150, .int x1] M kr := by
  obtain ⟨h8, ⟨p, hp, hI⟩, ht⟩ := hL
  rcases lt2 hp.1 with rfl | rfl
  · exact r7_of1 (K := Kc318) (t := 0) hp (vc318 (d + 9)) (by decide +kernel) h8 hI ht ⟨⟨rfl, List.mem_singleton.mpr rfl⟩, ⟨⟨rfl, i32_lo _, i32_hi _⟩, trivial⟩⟩ (fun v M' hv hL' h1 h2 => iV hv (fun x e => e ▸ h x M' hL' h1 (kpw h2 (by decide +kernel))))
  · exact r7_of1 (K := Kc451) (t := 0) hp (vc451 (d + 10)) (by decide +kernel) h8 hI ht ⟨⟨rfl, List.mem_singleton.mpr rfl⟩, ⟨⟨rfl, i32_lo _, i32_hi _⟩, trivial⟩⟩ (fun v M' hv hL' h1 h2 => iV hv (fun x e => e ▸ h x M' hL' h1 (kpw h2 (by decide +kernel))))
noncomputable def m7_wetDays : Md3 := [(150, 0, 0), (150, 11, 11), (160, 0, 4), (161, 0, 24)]
theorem p7_wetDays (d : Nat) {x1 x2 : Int32} (hL : LI M) (h : ∀ (x : Int32) (M' : Mm), LI M' → M'.1 = M.1 → kp m7_wetDays M M' → kr (some (.int x)) M') : Ev l X uX7_wetDays (d + 12) true 0 0 [.ref 150, .int x1, .int x2] M kr := by
  obtain ⟨h8, ⟨p, hp, hI⟩, ht⟩ := hL
  rcases lt2 hp.1 with rfl | rfl
  · exact r7_of1 (K := Kc320) (t := 0) hp (vc320 (d + 8)) (by decide +kernel) h8 hI ht ⟨⟨rfl, List.mem_singleton.mpr rfl⟩, ⟨⟨rfl, i32_lo _, i32_hi _⟩, ⟨⟨rfl, i32_lo _, i32_hi _⟩, trivial⟩⟩⟩ (fun v M' hv hL' h1 h2 => iV hv (fun x e => e ▸ h x M' hL' h1 (kpw h2 (by decide +kernel))))
  · exact r7_of1 (K := Kc452) (t := 0) hp (vc452 (d + 10)) (by decide +kernel) h8 hI ht ⟨⟨rfl, List.mem_singleton.mpr rfl⟩, ⟨⟨rfl, i32_lo _, i32_hi _⟩, ⟨⟨rfl, i32_lo _, i32_hi _⟩, trivial⟩⟩⟩ (fun v M' hv hL' h1 h2 => iV hv (fun x e => e ▸ h x M' hL' h1 (kpw h2 (by decide +kernel))))
noncomputable def m7_wettest : Md3 := [(150, 0, 0), (150, 11, 11), (160, 0, 4), (161, 0, 24)]
theorem p7_wettest (d : Nat) (hL : LI M) (h : ∀ (x : Int32) (M' : Mm), LI M' → M'.1 = M.1 → kp m7_wettest M M' → kr (some (.int x)) M') : Ev l X uX7_wettest (d + 12) true 0 0 [.ref 150] M kr := by
  obtain ⟨h8, ⟨p, hp, hI⟩, ht⟩ := hL
  rcases lt2 hp.1 with rfl | rfl
  · exact r7_of1 (K := Kc323) (t := 0) hp (vc323 (d + 8)) (by decide +kernel) h8 hI ht ⟨⟨rfl, List.mem_singleton.mpr rfl⟩, trivial⟩ (fun v M' hv hL' h1 h2 => iV hv (fun x e => e ▸ h x M' hL' h1 (kpw h2 (by decide +kernel))))
  · exact r7_of1 (K := Kc453) (t := 0) hp (vc453 (d + 11)) (by decide +kernel) h8 hI ht ⟨⟨rfl, List.mem_singleton.mpr rfl⟩, trivial⟩ (fun v M' hv hL' h1 h2 => iV hv (fun x e => e ▸ h x M' hL' h1 (kpw h2 (by decide +kernel))))
noncomputable def m7_sunny : Md3 := [(150, 0, 0), (150, 11, 11), (160, 0, 4), (161, 0, 24)]
theorem p7_sunny (d : Nat) (hL : LI M) (h : ∀ (x : Int32) (M' : Mm), LI M' → M'.1 = M.1 → kp m7_sunny M M' → kr (some (.int x)) M') : Ev l X uX7_sunny (d + 12) true 0 0 [.ref 150] M kr := by
  obtain ⟨h8, ⟨p, hp, hI⟩, ht⟩ := hL
  rcases lt2 hp.1 with rfl | rfl
  · exact r7_of1 (K := Kc324) (t := 0) hp (vc324 (d + 9)) (by decide +kernel) h8 hI ht ⟨⟨rfl, List.mem_singleton.mpr rfl⟩, trivial⟩ (fun v M' hv hL' h1 h2 => iV hv (fun x e => e ▸ h x M' hL' h1 (kpw h2 (by decide +kernel))))
  · exact r7_of1 (K := Kc454) (t := 0) hp (vc454 (d + 11)) (by decide +kernel) h8 hI ht ⟨⟨rfl, List.mem_singleton.mpr rfl⟩, trivial⟩ (fun v M' hv hL' h1 h2 => iV hv (fun x e => e ▸ h x M' hL' h1 (kpw h2 (by decide +kernel))))
noncomputable def m7_heaviest : Md3 := [(150, 0, 0), (150, 11, 11), (160, 0, 4), (161, 0, 24)]
theorem p7_heaviest (d : Nat) (hL : LI M) (h : ∀ (x : Int32) (M' : Mm), LI M' → M'.1 = M.1 → kp m7_heaviest M M' → kr (some (.int x)) M') : Ev l X uX7_heaviest (d + 12) true 0 0 [.ref 150] M kr := by
  obtain ⟨h8, ⟨p, hp, hI⟩, ht⟩ := hL
  rcases lt2 hp.1 with rfl | rfl
  · exact r7_of1 (K := Kc325) (t := 0) hp (vc325 (d + 9)) (by decide +kernel) h8 hI ht ⟨⟨rfl, List.mem_singleton.mpr rfl⟩, trivial⟩ (fun v M' hv hL' h1 h2 => iV hv (fun x e => e ▸ h x M' hL' h1 (kpw h2 (by decide +kernel))))
  · exact r7_of1 (K := Kc455) (t := 0) hp (vc455 (d + 11)) (by decide +kernel) h8 hI ht ⟨⟨rfl, List.mem_singleton.mpr rfl⟩, trivial⟩ (fun v M' hv hL' h1 h2 => iV hv (fun x e => e ▸ h x M' hL' h1 (kpw h2 (by decide +kernel))))
noncomputable def m7_fallen : Md3 := [(150, 0, 0), (150, 11, 11), (160, 0, 4), (161, 0, 24)]
theorem p7_fallen (d : Nat) {x1 : Int32} (hL : LI M) (h : ∀ (x : Int32) (M' : Mm), LI M' → M'.1 = M.1 → kp m7_fallen M M' → kr (some (.int x)) M') : Ev l X uX7_fallen (d + 12) true 0 0 [.ref 150, .int x1] M kr := by
  obtain ⟨h8, ⟨p, hp, hI⟩, ht⟩ := hL
  rcases lt2 hp.1 with rfl | rfl
  · exact r7_of1 (K := Kc327) (t := 0) hp (vc327 (d + 9)) (by decide +kernel) h8 hI ht ⟨⟨rfl, List.mem_singleton.mpr rfl⟩, ⟨⟨rfl, i32_lo _, i32_hi _⟩, trivial⟩⟩ (fun v M' hv hL' h1 h2 => iV hv (fun x e => e ▸ h x M' hL' h1 (kpw h2 (by decide +kernel))))
  · exact r7_of1 (K := Kc456) (t := 0) hp (vc456 (d + 10)) (by decide +kernel) h8 hI ht ⟨⟨rfl, List.mem_singleton.mpr rfl⟩, ⟨⟨rfl, i32_lo _, i32_hi _⟩, trivial⟩⟩ (fun v M' hv hL' h1 h2 => iV hv (fun x e => e ▸ h x M' hL' h1 (kpw h2 (by decide +kernel))))
noncomputable def m7_dropsIf : Md3 := [(150, 0, 0), (150, 11, 11), (150, 29, 30), (160, 0, 4), (161, 0, 24), (162, 0, 4)]
theorem p7_dropsIf (d : Nat) {x1 x2 x3 : Int32} (hL : LI M) (h : ∀ (x : Int32) (M' : Mm), LI M' → M'.1 = M.1 → kp m7_dropsIf M M' → kr (some (.int x)) M') : Ev l X uX7_dropsIf (d + 12) true 0 0 [.ref 150, .int x1, .int x2, .int x3] M kr := by
  obtain ⟨h8, ⟨p, hp, hI⟩, ht⟩ := hL
  rcases lt2 hp.1 with rfl | rfl
  · exact r7_of1 (K := Kc338) (t := 0) hp (vc338 (d + 9)) (by decide +kernel) h8 hI ht ⟨⟨rfl, List.mem_singleton.mpr rfl⟩, ⟨⟨rfl, i32_lo _, i32_hi _⟩, ⟨⟨rfl, i32_lo _, i32_hi _⟩, ⟨⟨rfl, i32_lo _, i32_hi _⟩, trivial⟩⟩⟩⟩ (fun v M' hv hL' h1 h2 => iV hv (fun x e => e ▸ h x M' hL' h1 (kpw h2 (by decide +kernel))))
  · exact r7_of1 (K := Kc459) (t := 0) hp (vc459 (d + 10)) (by decide +kernel) h8 hI ht ⟨⟨rfl, List.mem_singleton.mpr rfl⟩, ⟨⟨rfl, i32_lo _, i32_hi _⟩, ⟨⟨rfl, i32_lo _, i32_hi _⟩, ⟨⟨rfl, i32_lo _, i32_hi _⟩, trivial⟩⟩⟩⟩ (fun v M' hv hL' h1 h2 => iV hv (fun x e => e ▸ h x M' hL' h1 (kpw h2 (by decide +kernel))))
end PUB
end
section
section PUB
variable {l : Launch} {X : Nat × (Nat → Int32)} {M : Mm} {kr : KR}
noncomputable def m7_faceFor : Md3 := [(150, 0, 0), (150, 11, 11), (150, 29, 32), (160, 0, 4), (161, 0, 24), (162, 0, 4), (163, 0, 4)]
theorem p7_faceFor (d : Nat) {x1 x2 : Int32} (hL : LI M) (h : ∀ (x : Int32) (M' : Mm), LI M' → M'.1 = M.1 → kp m7_faceFor M M' → kr (some (.int x)) M') : Ev l X uX7_faceFor (d + 12) true 0 0 [.ref 150, .int x1, .int x2] M kr := by
  obtain ⟨h8, ⟨p, hp, hI⟩, ht⟩ := hL
  rcases lt2 hp.1 with rfl | rfl
  · exact r7_of1 (K := Kc340) (t := 0) hp (vc340 (d + 8)) (by decide +kernel) h8 hI ht ⟨⟨rfl, List.mem_singleton.mpr rfl⟩, ⟨⟨rfl, i32_lo _, i32_hi _⟩, ⟨⟨rfl, i32_lo _, i32_hi _⟩, trivial⟩⟩⟩ (fun v M' hv hL' h1 h2 => iV hv (fun x e => e ▸ h x M' hL' h1 (kpw h2 (by decide +kernel))))
  · exact r7_of1 (K := Kc460) (t := 0) hp (vc460 (d + 10)) (by decide +kernel) h8 hI ht ⟨⟨rfl, List.mem_singleton.mpr rfl⟩, ⟨⟨rfl, i32_lo _, i32_hi _⟩, ⟨⟨rfl, i32_lo _, i32_hi _⟩, trivial⟩⟩⟩ (fun v M' hv hL' h1 h2 => iV hv (fun x e => e ▸ h x M' hL' h1 (kpw h2 (by decide +kernel))))
noncomputable def m7_match : Md3 := [(150, 0, 0), (150, 11, 11), (150, 29, 32), (160, 0, 4), (161, 0, 24), (162, 0, 4), (163, 0, 4)]
theorem p7_match (d : Nat) {x1 : Int32} (hL : LI M) (h : ∀ (x : Int32) (M' : Mm), LI M' → M'.1 = M.1 → kp m7_match M M' → kr (some (.int x)) M') : Ev l X uX7_match (d + 12) true 0 0 [.ref 150, .int x1] M kr := by
  obtain ⟨h8, ⟨p, hp, hI⟩, ht⟩ := hL
  rcases lt2 hp.1 with rfl | rfl
  · exact r7_of1 (K := Kc364) (t := 0) hp (vc364 (d + 0)) (by decide +kernel) h8 hI ht ⟨⟨rfl, List.mem_singleton.mpr rfl⟩, ⟨⟨rfl, i32_lo _, i32_hi _⟩, trivial⟩⟩ (fun v M' hv hL' h1 h2 => iV hv (fun x e => e ▸ h x M' hL' h1 (kpw h2 (by decide +kernel))))
  · exact r7_of1 (K := Kc461) (t := 0) hp (vc461 (d + 10)) (by decide +kernel) h8 hI ht ⟨⟨rfl, List.mem_singleton.mpr rfl⟩, ⟨⟨rfl, i32_lo _, i32_hi _⟩, trivial⟩⟩ (fun v M' hv hL' h1 h2 => iV hv (fun x e => e ▸ h x M' hL' h1 (kpw h2 (by decide +kernel))))
noncomputable def m7_matchDrops : Md3 := [(150, 0, 0), (150, 11, 11), (150, 29, 32), (160, 0, 4), (161, 0, 24), (162, 0, 4), (163, 0, 4)]
theorem p7_matchDrops (d : Nat) {x1 : Int32} (hL : LI M) (h : ∀ (x : Int32) (M' : Mm), LI M' → M'.1 = M.1 → kp m7_matchDrops M M' → kr (some (.int x)) M') : Ev l X uX7_matchDrops (d + 12) true 0 0 [.ref 150, .int x1] M kr := by
  obtain ⟨h8, ⟨p, hp, hI⟩, ht⟩ := hL
  rcases lt2 hp.1 with rfl | rfl
  · exact r7_of1 (K := Kc365) (t := 0) hp (vc365 (d + 0)) (by decide +kernel) h8 hI ht ⟨⟨rfl, List.mem_singleton.mpr rfl⟩, ⟨⟨rfl, i32_lo _, i32_hi _⟩, trivial⟩⟩ (fun v M' hv hL' h1 h2 => iV hv (fun x e => e ▸ h x M' hL' h1 (kpw h2 (by decide +kernel))))
  · exact r7_of1 (K := Kc462) (t := 0) hp (vc462 (d + 10)) (by decide +kernel) h8 hI ht ⟨⟨rfl, List.mem_singleton.mpr rfl⟩, ⟨⟨rfl, i32_lo _, i32_hi _⟩, trivial⟩⟩ (fun v M' hv hL' h1 h2 => iV hv (fun x e => e ▸ h x M' hL' h1 (kpw h2 (by decide +kernel))))
noncomputable def m7_matchAt : Md3 := [(150, 0, 0), (150, 11, 11), (150, 29, 32), (160, 0, 4), (161, 0, 24), (162, 0, 4), (163, 0, 4)]
theorem p7_matchAt (d : Nat) {x1 x2 : Int32} (hL : LI M) (h : ∀ (x : Int32) (M' : Mm), LI M' → M'.1 = M.1 → kp m7_matchAt M M' → kr (some (.int x)) M') : Ev l X uX7_matchAt (d + 12) true 0 0 [.ref 150, .int x1, .int x2] M kr := by
  obtain ⟨h8, ⟨p, hp, hI⟩, ht⟩ := hL
  rcases lt2 hp.1 with rfl | rfl
  · exact r7_of1 (K := Kc366) (t := 0) hp (vc366 (d + 0)) (by decide +kernel) h8 hI ht ⟨⟨rfl, List.mem_singleton.mpr rfl⟩, ⟨⟨rfl, i32_lo _, i32_hi _⟩, ⟨⟨rfl, i32_lo _, i32_hi _⟩, trivial⟩⟩⟩ (fun v M' hv hL' h1 h2 => iV hv (fun x e => e ▸ h x M' hL' h1 (kpw h2 (by decide +kernel))))
  · exact r7_of1 (K := Kc463) (t := 0) hp (vc463 (d + 10)) (by decide +kernel) h8 hI ht ⟨⟨rfl, List.mem_singleton.mpr rfl⟩, ⟨⟨rfl, i32_lo _, i32_hi _⟩, ⟨⟨rfl, i32_lo _, i32_hi _⟩, trivial⟩⟩⟩ (fun v M' hv hL' h1 h2 => iV hv (fun x e => e ▸ h x M' hL' h1 (kpw h2 (by decide +kernel))))
noncomputable def m7_steps : Md3 := [(150, 0, 0), (150, 11, 11), (150, 26, 26), (164, 0, 19)]
theorem p7_steps (d : Nat) {x1 x2 : Int32} (hL : LI M) (h : ∀ (x : Int32) (M' : Mm), LI M' → M'.1 = M.1 → kp m7_steps M M' → kr (some (.int x)) M') : Ev l X uX7_steps (d + 12) true 0 0 [.ref 150, .int x1, .int x2] M kr := by
  obtain ⟨h8, ⟨p, hp, hI⟩, ht⟩ := hL
  rcases lt2 hp.1 with rfl | rfl
  · exact r7_of1 (K := Kc369) (t := 0) hp (vc369 (d + 6)) (by decide +kernel) h8 hI ht ⟨⟨rfl, List.mem_singleton.mpr rfl⟩, ⟨⟨rfl, i32_lo _, i32_hi _⟩, ⟨⟨rfl, i32_lo _, i32_hi _⟩, trivial⟩⟩⟩ (fun v M' hv hL' h1 h2 => iV hv (fun x e => e ▸ h x M' hL' h1 (kpw h2 (by decide +kernel))))
  · exact r7_of1 (K := Kc464) (t := 0) hp (vc464 (d + 10)) (by decide +kernel) h8 hI ht ⟨⟨rfl, List.mem_singleton.mpr rfl⟩, ⟨⟨rfl, i32_lo _, i32_hi _⟩, ⟨⟨rfl, i32_lo _, i32_hi _⟩, trivial⟩⟩⟩ (fun v M' hv hL' h1 h2 => iV hv (fun x e => e ▸ h x M' hL' h1 (kpw h2 (by decide +kernel))))
noncomputable def m7_wets : Md3 := [(150, 0, 0), (150, 11, 11), (150, 26, 26), (160, 0, 4), (161, 0, 24), (164, 0, 19)]
theorem p7_wets (d : Nat) {x1 x2 : Int32} (hL : LI M) (h : ∀ (x : Int32) (M' : Mm), LI M' → M'.1 = M.1 → kp m7_wets M M' → kr (some (.int x)) M') : Ev l X uX7_wets (d + 12) true 0 0 [.ref 150, .int x1, .int x2] M kr := by
  obtain ⟨h8, ⟨p, hp, hI⟩, ht⟩ := hL
  rcases lt2 hp.1 with rfl | rfl
  · exact r7_of1 (K := Kc373) (t := 0) hp (vc373 (d + 6)) (by decide +kernel) h8 hI ht ⟨⟨rfl, List.mem_singleton.mpr rfl⟩, ⟨⟨rfl, i32_lo _, i32_hi _⟩, ⟨⟨rfl, i32_lo _, i32_hi _⟩, trivial⟩⟩⟩ (fun v M' hv hL' h1 h2 => iV hv (fun x e => e ▸ h x M' hL' h1 (kpw h2 (by decide +kernel))))
  · exact r7_of1 (K := Kc466) (t := 0) hp (vc466 (d + 10)) (by decide +kernel) h8 hI ht ⟨⟨rfl, List.mem_singleton.mpr rfl⟩, ⟨⟨rfl, i32_lo _, i32_hi _⟩, ⟨⟨rfl, i32_lo _, i32_hi _⟩, trivial⟩⟩⟩ (fun v M' hv hL' h1 h2 => iV hv (fun x e => e ▸ h x M' hL' h1 (kpw h2 (by decide +kernel))))
noncomputable def m7_way : Md3 := [(150, 0, 0), (150, 11, 11), (150, 26, 26), (160, 0, 4), (161, 0, 24), (164, 0, 19)]
theorem p7_way (d : Nat) {x1 x2 : Int32} (hL : LI M) (h : ∀ (x : Int32) (M' : Mm), LI M' → M'.1 = M.1 → kp m7_way M M' → kr (some (.int x)) M') : Ev l X uX7_way (d + 12) true 0 0 [.ref 150, .int x1, .int x2] M kr := by
  obtain ⟨h8, ⟨p, hp, hI⟩, ht⟩ := hL
  rcases lt2 hp.1 with rfl | rfl
  · exact r7_of1 (K := Kc374) (t := 0) hp (vc374 (d + 6)) (by decide +kernel) h8 hI ht ⟨⟨rfl, List.mem_singleton.mpr rfl⟩, ⟨⟨rfl, i32_lo _, i32_hi _⟩, ⟨⟨rfl, i32_lo _, i32_hi _⟩, trivial⟩⟩⟩ (fun v M' hv hL' h1 h2 => iV hv (fun x e => e ▸ h x M' hL' h1 (kpw h2 (by decide +kernel))))
  · exact r7_of1 (K := Kc467) (t := 0) hp (vc467 (d + 10)) (by decide +kernel) h8 hI ht ⟨⟨rfl, List.mem_singleton.mpr rfl⟩, ⟨⟨rfl, i32_lo _, i32_hi _⟩, ⟨⟨rfl, i32_lo _, i32_hi _⟩, trivial⟩⟩⟩ (fun v M' hv hL' h1 h2 => iV hv (fun x e => e ▸ h x M' hL' h1 (kpw h2 (by decide +kernel))))
noncomputable def m7_wayAt : Md3 := [(150, 0, 0), (150, 11, 11), (150, 26, 26), (160, 0, 4), (161, 0, 24), (164, 0, 19)]
theorem p7_wayAt (d : Nat) {x1 x2 x3 : Int32} (hL : LI M) (h : ∀ (x : Int32) (M' : Mm), LI M' → M'.1 = M.1 → kp m7_wayAt M M' → kr (some (.int x)) M') : Ev l X uX7_wayAt (d + 12) true 0 0 [.ref 150, .int x1, .int x2, .int x3] M kr := by
  obtain ⟨h8, ⟨p, hp, hI⟩, ht⟩ := hL
  rcases lt2 hp.1 with rfl | rfl
  · exact r7_of1 (K := KwayAt) (t := 0) hp (vw0 (d + 5)) (by decide +kernel) h8 hI ht ⟨⟨rfl, List.mem_singleton.mpr rfl⟩, ⟨⟨rfl, i32_lo _, i32_hi _⟩, ⟨⟨rfl, i32_lo _, i32_hi _⟩, ⟨⟨rfl, i32_lo _, i32_hi _⟩, trivial⟩⟩⟩⟩ (fun v M' hv hL' h1 h2 => iV hv (fun x e => e ▸ h x M' hL' h1 (kpw h2 (by decide +kernel))))
  · exact r7_of1 (K := Kc504) (t := 0) hp (vc504 (d + 10)) (by decide +kernel) h8 hI ht ⟨⟨rfl, List.mem_singleton.mpr rfl⟩, ⟨⟨rfl, i32_lo _, i32_hi _⟩, ⟨⟨rfl, i32_lo _, i32_hi _⟩, ⟨⟨rfl, i32_lo _, i32_hi _⟩, trivial⟩⟩⟩⟩ (fun v M' hv hL' h1 h2 => iV hv (fun x e => e ▸ h x M' hL' h1 (kpw h2 (by decide +kernel))))
end PUB
end
section
section PUB
variable {l : Launch} {X : Nat × (Nat → Int32)} {M : Mm} {kr : KR}
noncomputable def m7_dryDay : Md3 := [(150, 0, 0), (150, 11, 11), (150, 26, 26), (160, 0, 4), (161, 0, 24), (164, 0, 19)]
theorem p7_dryDay (d : Nat) {x1 : Int32} (hL : LI M) (h : ∀ (x : Int32) (M' : Mm), LI M' → M'.1 = M.1 → kp m7_dryDay M M' → kr (some (.int x)) M') : Ev l X uX7_dryDay (d + 12) true 0 0 [.ref 150, .int x1] M kr := by
  obtain ⟨h8, ⟨p, hp, hI⟩, ht⟩ := hL
  rcases lt2 hp.1 with rfl | rfl
  · exact r7_of1 (K := Kc375) (t := 0) hp (vc375 (d + 6)) (by decide +kernel) h8 hI ht ⟨⟨rfl, List.mem_singleton.mpr rfl⟩, ⟨⟨rfl, i32_lo _, i32_hi _⟩, trivial⟩⟩ (fun v M' hv hL' h1 h2 => iV hv (fun x e => e ▸ h x M' hL' h1 (kpw h2 (by decide +kernel))))
  · exact r7_of1 (K := Kc468) (t := 0) hp (vc468 (d + 10)) (by decide +kernel) h8 hI ht ⟨⟨rfl, List.mem_singleton.mpr rfl⟩, ⟨⟨rfl, i32_lo _, i32_hi _⟩, trivial⟩⟩ (fun v M' hv hL' h1 h2 => iV hv (fun x e => e ▸ h x M' hL' h1 (kpw h2 (by decide +kernel))))
noncomputable def m7_gate : Md3 := [(150, 0, 0), (150, 11, 11), (150, 26, 26), (164, 0, 19)]
theorem p7_gate (d : Nat) (hL : LI M) (h : ∀ (x : Int32) (M' : Mm), LI M' → M'.1 = M.1 → kp m7_gate M M' → kr (some (.int x)) M') : Ev l X uX7_gate (d + 12) true 0 0 [.ref 150] M kr := by
  obtain ⟨h8, ⟨p, hp, hI⟩, ht⟩ := hL
  rcases lt2 hp.1 with rfl | rfl
  · exact r7_of1 (K := Kc377) (t := 0) hp (vc377 (d + 5)) (by decide +kernel) h8 hI ht ⟨⟨rfl, List.mem_singleton.mpr rfl⟩, trivial⟩ (fun v M' hv hL' h1 h2 => iV hv (fun x e => e ▸ h x M' hL' h1 (kpw h2 (by decide +kernel))))
  · exact r7_of1 (K := Kc469) (t := 0) hp (vc469 (d + 11)) (by decide +kernel) h8 hI ht ⟨⟨rfl, List.mem_singleton.mpr rfl⟩, trivial⟩ (fun v M' hv hL' h1 h2 => iV hv (fun x e => e ▸ h x M' hL' h1 (kpw h2 (by decide +kernel))))
noncomputable def m7_fits : Md3 := [(150, 0, 0), (150, 11, 11), (150, 36, 38), (160, 0, 4), (161, 0, 24), (165, 0, 5), (166, 0, 3)]
theorem p7_fits (d : Nat) (hL : LI M) (h : ∀ (x : Int32) (M' : Mm), LI M' → M'.1 = M.1 → kp m7_fits M M' → kr (some (.int x)) M') : Ev l X uX7_fits (d + 12) true 0 0 [.ref 150] M kr := by
  obtain ⟨h8, ⟨p, hp, hI⟩, ht⟩ := hL
  rcases lt2 hp.1 with rfl | rfl
  · exact r7_of1 (K := Kc380) (t := 0) hp (vc380 (d + 8)) (by decide +kernel) h8 hI ht ⟨⟨rfl, List.mem_singleton.mpr rfl⟩, trivial⟩ (fun v M' hv hL' h1 h2 => iV hv (fun x e => e ▸ h x M' hL' h1 (kpw h2 (by decide +kernel))))
  · exact r7_of1 (K := Kc470) (t := 0) hp (vc470 (d + 11)) (by decide +kernel) h8 hI ht ⟨⟨rfl, List.mem_singleton.mpr rfl⟩, trivial⟩ (fun v M' hv hL' h1 h2 => iV hv (fun x e => e ▸ h x M' hL' h1 (kpw h2 (by decide +kernel))))
noncomputable def m7_fitAt : Md3 := [(150, 0, 0), (150, 11, 11), (150, 36, 38), (160, 0, 4), (161, 0, 24), (165, 0, 5), (166, 0, 3)]
theorem p7_fitAt (d : Nat) {x1 : Int32} (hL : LI M) (h : ∀ (x : Int32) (M' : Mm), LI M' → M'.1 = M.1 → kp m7_fitAt M M' → kr (some (.int x)) M') : Ev l X uX7_fitAt (d + 12) true 0 0 [.ref 150, .int x1] M kr := by
  obtain ⟨h8, ⟨p, hp, hI⟩, ht⟩ := hL
  rcases lt2 hp.1 with rfl | rfl
  · exact r7_of1 (K := Kc381) (t := 0) hp (vc381 (d + 8)) (by decide +kernel) h8 hI ht ⟨⟨rfl, List.mem_singleton.mpr rfl⟩, ⟨⟨rfl, i32_lo _, i32_hi _⟩, trivial⟩⟩ (fun v M' hv hL' h1 h2 => iV hv (fun x e => e ▸ h x M' hL' h1 (kpw h2 (by decide +kernel))))
  · exact r7_of1 (K := Kc471) (t := 0) hp (vc471 (d + 11)) (by decide +kernel) h8 hI ht ⟨⟨rfl, List.mem_singleton.mpr rfl⟩, ⟨⟨rfl, i32_lo _, i32_hi _⟩, trivial⟩⟩ (fun v M' hv hL' h1 h2 => iV hv (fun x e => e ▸ h x M' hL' h1 (kpw h2 (by decide +kernel))))
noncomputable def m7_could : Md3 := [(150, 0, 0), (150, 11, 11), (150, 36, 38), (160, 0, 4), (161, 0, 24), (165, 0, 5), (166, 0, 3)]
theorem p7_could (d : Nat) (hL : LI M) (h : ∀ (x : Int32) (M' : Mm), LI M' → M'.1 = M.1 → kp m7_could M M' → kr (some (.int x)) M') : Ev l X uX7_could (d + 12) true 0 0 [.ref 150] M kr := by
  obtain ⟨h8, ⟨p, hp, hI⟩, ht⟩ := hL
  rcases lt2 hp.1 with rfl | rfl
  · exact r7_of1 (K := Kc382) (t := 0) hp (vc382 (d + 8)) (by decide +kernel) h8 hI ht ⟨⟨rfl, List.mem_singleton.mpr rfl⟩, trivial⟩ (fun v M' hv hL' h1 h2 => iV hv (fun x e => e ▸ h x M' hL' h1 (kpw h2 (by decide +kernel))))
  · exact r7_of1 (K := Kc472) (t := 0) hp (vc472 (d + 11)) (by decide +kernel) h8 hI ht ⟨⟨rfl, List.mem_singleton.mpr rfl⟩, trivial⟩ (fun v M' hv hL' h1 h2 => iV hv (fun x e => e ▸ h x M' hL' h1 (kpw h2 (by decide +kernel))))
noncomputable def m7_surely : Md3 := [(150, 0, 0), (150, 11, 11), (150, 36, 38), (160, 0, 4), (161, 0, 24), (165, 0, 5), (166, 0, 3)]
theorem p7_surely (d : Nat) (hL : LI M) (h : ∀ (x : Int32) (M' : Mm), LI M' → M'.1 = M.1 → kp m7_surely M M' → kr (some (.int x)) M') : Ev l X uX7_surely (d + 12) true 0 0 [.ref 150] M kr := by
  obtain ⟨h8, ⟨p, hp, hI⟩, ht⟩ := hL
  rcases lt2 hp.1 with rfl | rfl
  · exact r7_of1 (K := Kc383) (t := 0) hp (vc383 (d + 8)) (by decide +kernel) h8 hI ht ⟨⟨rfl, List.mem_singleton.mpr rfl⟩, trivial⟩ (fun v M' hv hL' h1 h2 => iV hv (fun x e => e ▸ h x M' hL' h1 (kpw h2 (by decide +kernel))))
  · exact r7_of1 (K := Kc473) (t := 0) hp (vc473 (d + 11)) (by decide +kernel) h8 hI ht ⟨⟨rfl, List.mem_singleton.mpr rfl⟩, trivial⟩ (fun v M' hv hL' h1 h2 => iV hv (fun x e => e ▸ h x M' hL' h1 (kpw h2 (by decide +kernel))))
noncomputable def m7_ask : Md3 := [(150, 0, 0), (150, 11, 11), (150, 36, 38), (160, 0, 4), (161, 0, 24), (165, 0, 5), (166, 0, 3)]
theorem p7_ask (d : Nat) (hL : LI M) (h : ∀ (x : Int32) (M' : Mm), LI M' → M'.1 = M.1 → kp m7_ask M M' → kr (some (.int x)) M') : Ev l X uX7_ask (d + 12) true 0 0 [.ref 150] M kr := by
  obtain ⟨h8, ⟨p, hp, hI⟩, ht⟩ := hL
  rcases lt2 hp.1 with rfl | rfl
  · exact r7_of1 (K := Kc386) (t := 0) hp (vc386 (d + 7)) (by decide +kernel) h8 hI ht ⟨⟨rfl, List.mem_singleton.mpr rfl⟩, trivial⟩ (fun v M' hv hL' h1 h2 => iV hv (fun x e => e ▸ h x M' hL' h1 (kpw h2 (by decide +kernel))))
  · exact r7_of1 (K := Kc474) (t := 0) hp (vc474 (d + 11)) (by decide +kernel) h8 hI ht ⟨⟨rfl, List.mem_singleton.mpr rfl⟩, trivial⟩ (fun v M' hv hL' h1 h2 => iV hv (fun x e => e ▸ h x M' hL' h1 (kpw h2 (by decide +kernel))))
noncomputable def m7_askLeaves : Md3 := [(150, 0, 0), (150, 11, 11), (150, 36, 38), (160, 0, 4), (161, 0, 24), (165, 0, 5), (166, 0, 3)]
theorem p7_askLeaves (d : Nat) (hL : LI M) (h : ∀ (x : Int32) (M' : Mm), LI M' → M'.1 = M.1 → kp m7_askLeaves M M' → kr (some (.int x)) M') : Ev l X uX7_askLeaves (d + 12) true 0 0 [.ref 150] M kr := by
  obtain ⟨h8, ⟨p, hp, hI⟩, ht⟩ := hL
  rcases lt2 hp.1 with rfl | rfl
  · exact r7_of1 (K := Kc387) (t := 0) hp (vc387 (d + 7)) (by decide +kernel) h8 hI ht ⟨⟨rfl, List.mem_singleton.mpr rfl⟩, trivial⟩ (fun v M' hv hL' h1 h2 => iV hv (fun x e => e ▸ h x M' hL' h1 (kpw h2 (by decide +kernel))))
  · exact r7_of1 (K := Kc475) (t := 0) hp (vc475 (d + 11)) (by decide +kernel) h8 hI ht ⟨⟨rfl, List.mem_singleton.mpr rfl⟩, trivial⟩ (fun v M' hv hL' h1 h2 => iV hv (fun x e => e ▸ h x M' hL' h1 (kpw h2 (by decide +kernel))))
end PUB
end
section
section PUB
variable {l : Launch} {X : Nat × (Nat → Int32)} {M : Mm} {kr : KR}
noncomputable def m7_judge : Md3 := [(150, 0, 0), (150, 11, 11), (160, 0, 4), (161, 0, 24), (165, 0, 5)]
theorem p7_judge (d : Nat) (hL : LI M) (h : ∀ (x : Int32) (M' : Mm), LI M' → M'.1 = M.1 → kp m7_judge M M' → kr (some (.int x)) M') : Ev l X uX7_judge (d + 12) true 0 0 [.ref 150] M kr := by
  obtain ⟨h8, ⟨p, hp, hI⟩, ht⟩ := hL
  rcases lt2 hp.1 with rfl | rfl
  · exact r7_of1 (K := Kc388) (t := 0) hp (vc388 (d + 9)) (by decide +kernel) h8 hI ht ⟨⟨rfl, List.mem_singleton.mpr rfl⟩, trivial⟩ (fun v M' hv hL' h1 h2 => iV hv (fun x e => e ▸ h x M' hL' h1 (kpw h2 (by decide +kernel))))
  · exact r7_of1 (K := Kc476) (t := 0) hp (vc476 (d + 11)) (by decide +kernel) h8 hI ht ⟨⟨rfl, List.mem_singleton.mpr rfl⟩, trivial⟩ (fun v M' hv hL' h1 h2 => iV hv (fun x e => e ▸ h x M' hL' h1 (kpw h2 (by decide +kernel))))
noncomputable def m7_sulks : Md3 := [(150, 0, 0), (150, 11, 11)]
theorem p7_sulks (d : Nat) {x1 x2 x3 x4 : Int32} (hL : LI M) (h : ∀ (x : Int32) (M' : Mm), LI M' → M'.1 = M.1 → kp m7_sulks M M' → kr (some (.int x)) M') : Ev l X uX7_sulks (d + 12) true 0 0 [.ref 150, .int x1, .int x2, .int x3, .int x4] M kr := by
  obtain ⟨h8, ⟨p, hp, hI⟩, ht⟩ := hL
  rcases lt2 hp.1 with rfl | rfl
  · exact r7_of1 (K := Kc392) (t := 0) hp (vc392 (d + 11)) (by decide +kernel) h8 hI ht ⟨⟨rfl, List.mem_singleton.mpr rfl⟩, ⟨⟨rfl, i32_lo _, i32_hi _⟩, ⟨⟨rfl, i32_lo _, i32_hi _⟩, ⟨⟨rfl, i32_lo _, i32_hi _⟩, ⟨⟨rfl, i32_lo _, i32_hi _⟩, trivial⟩⟩⟩⟩⟩ (fun v M' hv hL' h1 h2 => iV hv (fun x e => e ▸ h x M' hL' h1 (kpw h2 (by decide +kernel))))
  · exact r7_of1 (K := Kc478) (t := 0) hp (vc478 (d + 11)) (by decide +kernel) h8 hI ht ⟨⟨rfl, List.mem_singleton.mpr rfl⟩, ⟨⟨rfl, i32_lo _, i32_hi _⟩, ⟨⟨rfl, i32_lo _, i32_hi _⟩, ⟨⟨rfl, i32_lo _, i32_hi _⟩, ⟨⟨rfl, i32_lo _, i32_hi _⟩, trivial⟩⟩⟩⟩⟩ (fun v M' hv hL' h1 h2 => iV hv (fun x e => e ▸ h x M' hL' h1 (kpw h2 (by decide +kernel))))
noncomputable def m7_rests : Md3 := [(150, 0, 0), (150, 11, 11), (150, 39, 39)]
theorem p7_rests (d : Nat) {x1 : Int32} (hL : LI M) (h : ∀ (x : Int32) (M' : Mm), LI M' → M'.1 = M.1 → kp m7_rests M M' → kr (some (.int x)) M') : Ev l X uX7_rests (d + 12) true 0 0 [.ref 150, .int x1] M kr := by
  obtain ⟨h8, ⟨p, hp, hI⟩, ht⟩ := hL
  rcases lt2 hp.1 with rfl | rfl
  · exact r7_of1 (K := Kc394) (t := 0) hp (vc394 (d + 10)) (by decide +kernel) h8 hI ht ⟨⟨rfl, List.mem_singleton.mpr rfl⟩, ⟨⟨rfl, i32_lo _, i32_hi _⟩, trivial⟩⟩ (fun v M' hv hL' h1 h2 => iV hv (fun x e => e ▸ h x M' hL' h1 (kpw h2 (by decide +kernel))))
  · exact r7_of1 (K := Kc479) (t := 0) hp (vc479 (d + 11)) (by decide +kernel) h8 hI ht ⟨⟨rfl, List.mem_singleton.mpr rfl⟩, ⟨⟨rfl, i32_lo _, i32_hi _⟩, trivial⟩⟩ (fun v M' hv hL' h1 h2 => iV hv (fun x e => e ▸ h x M' hL' h1 (kpw h2 (by decide +kernel))))
noncomputable def m7_rest : Md3 := [(150, 0, 0), (150, 11, 11), (150, 39, 39)]
theorem p7_rest (d : Nat) {x1 : Int32} (hL : LI M) (h : ∀ (x : Int32) (M' : Mm), LI M' → M'.1 = M.1 → kp m7_rest M M' → kr (some (.int x)) M') : Ev l X uX7_rest (d + 12) true 0 0 [.ref 150, .int x1] M kr := by
  obtain ⟨h8, ⟨p, hp, hI⟩, ht⟩ := hL
  rcases lt2 hp.1 with rfl | rfl
  · exact r7_of1 (K := Kc395) (t := 0) hp (vc395 (d + 10)) (by decide +kernel) h8 hI ht ⟨⟨rfl, List.mem_singleton.mpr rfl⟩, ⟨⟨rfl, i32_lo _, i32_hi _⟩, trivial⟩⟩ (fun v M' hv hL' h1 h2 => iV hv (fun x e => e ▸ h x M' hL' h1 (kpw h2 (by decide +kernel))))
  · exact r7_of1 (K := Kc480) (t := 0) hp (vc480 (d + 11)) (by decide +kernel) h8 hI ht ⟨⟨rfl, List.mem_singleton.mpr rfl⟩, ⟨⟨rfl, i32_lo _, i32_hi _⟩, trivial⟩⟩ (fun v M' hv hL' h1 h2 => iV hv (fun x e => e ▸ h x M' hL' h1 (kpw h2 (by decide +kernel))))
noncomputable def m7_odds : Md3 := [(150, 0, 0), (150, 11, 11), (150, 40, 42), (160, 0, 4), (161, 0, 24)]
theorem p7_odds (d : Nat) {x1 x2 x3 : Int32} (hL : LI M) (h : ∀ (x : Int64) (M' : Mm), LI M' → M'.1 = M.1 → kp m7_odds M M' → kr (some (.long x)) M') : Ev l X uX7_odds (d + 12) true 0 0 [.ref 150, .int x1, .int x2, .int x3] M kr := by
  obtain ⟨h8, ⟨p, hp, hI⟩, ht⟩ := hL
  rcases lt2 hp.1 with rfl | rfl
  · exact r7_of1 (K := Kc399) (t := 1) hp (vc399 (d + 5)) (by decide +kernel) h8 hI ht ⟨⟨rfl, List.mem_singleton.mpr rfl⟩, ⟨⟨rfl, i32_lo _, i32_hi _⟩, ⟨⟨rfl, i32_lo _, i32_hi _⟩, ⟨⟨rfl, i32_lo _, i32_hi _⟩, trivial⟩⟩⟩⟩ (fun v M' hv hL' h1 h2 => lV hv (fun x e => e ▸ h x M' hL' h1 (kpw h2 (by decide +kernel))))
  · exact r7_of1 (K := Kc482) (t := 1) hp (vc482 (d + 10)) (by decide +kernel) h8 hI ht ⟨⟨rfl, List.mem_singleton.mpr rfl⟩, ⟨⟨rfl, i32_lo _, i32_hi _⟩, ⟨⟨rfl, i32_lo _, i32_hi _⟩, ⟨⟨rfl, i32_lo _, i32_hi _⟩, trivial⟩⟩⟩⟩ (fun v M' hv hL' h1 h2 => lV hv (fun x e => e ▸ h x M' hL' h1 (kpw h2 (by decide +kernel))))
noncomputable def m7_mean : Md3 := [(150, 0, 0), (150, 11, 11), (150, 40, 42), (160, 0, 4), (161, 0, 24)]
theorem p7_mean (d : Nat) {x1 x2 x3 : Int32} (hL : LI M) (h : ∀ (x : Int64) (M' : Mm), LI M' → M'.1 = M.1 → kp m7_mean M M' → kr (some (.long x)) M') : Ev l X uX7_mean (d + 12) true 0 0 [.ref 150, .int x1, .int x2, .int x3] M kr := by
  obtain ⟨h8, ⟨p, hp, hI⟩, ht⟩ := hL
  rcases lt2 hp.1 with rfl | rfl
  · exact r7_of1 (K := Kc400) (t := 1) hp (vc400 (d + 5)) (by decide +kernel) h8 hI ht ⟨⟨rfl, List.mem_singleton.mpr rfl⟩, ⟨⟨rfl, i32_lo _, i32_hi _⟩, ⟨⟨rfl, i32_lo _, i32_hi _⟩, ⟨⟨rfl, i32_lo _, i32_hi _⟩, trivial⟩⟩⟩⟩ (fun v M' hv hL' h1 h2 => lV hv (fun x e => e ▸ h x M' hL' h1 (kpw h2 (by decide +kernel))))
  · exact r7_of1 (K := Kc483) (t := 1) hp (vc483 (d + 10)) (by decide +kernel) h8 hI ht ⟨⟨rfl, List.mem_singleton.mpr rfl⟩, ⟨⟨rfl, i32_lo _, i32_hi _⟩, ⟨⟨rfl, i32_lo _, i32_hi _⟩, ⟨⟨rfl, i32_lo _, i32_hi _⟩, trivial⟩⟩⟩⟩ (fun v M' hv hL' h1 h2 => lV hv (fun x e => e ▸ h x M' hL' h1 (kpw h2 (by decide +kernel))))
noncomputable def m7_borne : Md3 := [(150, 0, 0), (150, 11, 11), (150, 43, 43), (160, 0, 4), (161, 0, 24)]
theorem p7_borne (d : Nat) {x1 x2 x3 : Int32} (hL : LI M) (h : ∀ (x : Int32) (M' : Mm), LI M' → M'.1 = M.1 → kp m7_borne M M' → kr (some (.int x)) M') : Ev l X uX7_borne (d + 12) true 0 0 [.ref 150, .int x1, .int x2, .int x3] M kr := by
  obtain ⟨h8, ⟨p, hp, hI⟩, ht⟩ := hL
  rcases lt2 hp.1 with rfl | rfl
  · exact r7_of1 (K := Kc404) (t := 0) hp (vc404 (d + 8)) (by decide +kernel) h8 hI ht ⟨⟨rfl, List.mem_singleton.mpr rfl⟩, ⟨⟨rfl, i32_lo _, i32_hi _⟩, ⟨⟨rfl, i32_lo _, i32_hi _⟩, ⟨⟨rfl, i32_lo _, i32_hi _⟩, trivial⟩⟩⟩⟩ (fun v M' hv hL' h1 h2 => iV hv (fun x e => e ▸ h x M' hL' h1 (kpw h2 (by decide +kernel))))
  · exact r7_of1 (K := Kc486) (t := 0) hp (vc486 (d + 10)) (by decide +kernel) h8 hI ht ⟨⟨rfl, List.mem_singleton.mpr rfl⟩, ⟨⟨rfl, i32_lo _, i32_hi _⟩, ⟨⟨rfl, i32_lo _, i32_hi _⟩, ⟨⟨rfl, i32_lo _, i32_hi _⟩, trivial⟩⟩⟩⟩ (fun v M' hv hL' h1 h2 => iV hv (fun x e => e ▸ h x M' hL' h1 (kpw h2 (by decide +kernel))))
noncomputable def m7_firstWet : Md3 := [(150, 0, 0), (150, 11, 11), (150, 43, 43), (160, 0, 4), (161, 0, 24)]
theorem p7_firstWet (d : Nat) {x1 x2 : Int32} (hL : LI M) (h : ∀ (x : Int32) (M' : Mm), LI M' → M'.1 = M.1 → kp m7_firstWet M M' → kr (some (.int x)) M') : Ev l X uX7_firstWet (d + 12) true 0 0 [.ref 150, .int x1, .int x2] M kr := by
  obtain ⟨h8, ⟨p, hp, hI⟩, ht⟩ := hL
  rcases lt2 hp.1 with rfl | rfl
  · exact r7_of1 (K := Kc405) (t := 0) hp (vc405 (d + 8)) (by decide +kernel) h8 hI ht ⟨⟨rfl, List.mem_singleton.mpr rfl⟩, ⟨⟨rfl, i32_lo _, i32_hi _⟩, ⟨⟨rfl, i32_lo _, i32_hi _⟩, trivial⟩⟩⟩ (fun v M' hv hL' h1 h2 => iV hv (fun x e => e ▸ h x M' hL' h1 (kpw h2 (by decide +kernel))))
  · exact r7_of1 (K := Kc487) (t := 0) hp (vc487 (d + 10)) (by decide +kernel) h8 hI ht ⟨⟨rfl, List.mem_singleton.mpr rfl⟩, ⟨⟨rfl, i32_lo _, i32_hi _⟩, ⟨⟨rfl, i32_lo _, i32_hi _⟩, trivial⟩⟩⟩ (fun v M' hv hL' h1 h2 => iV hv (fun x e => e ▸ h x M' hL' h1 (kpw h2 (by decide +kernel))))
end PUB
end
section
section PUB
variable {l : Launch} {X : Nat × (Nat → Int32)} {M : Mm} {kr : KR}
noncomputable def m7_day : Md3 := [(150, 0, 0), (150, 11, 11), (150, 22, 22), (157, 0, 17), (157, 23, 24), (158, 0, 399), (160, 0, 4)]
theorem p7_day (d : Nat) (hL : LI M) (h : ∀ (x : Int32) (M' : Mm), LI M' → M'.1 = M.1 → kp m7_day M M' → kr (some (.int x)) M') : Ev l X uX7_day (d + 12) true 0 0 [.ref 150] M kr := by
  obtain ⟨h8, ⟨p, hp, hI⟩, ht⟩ := hL
  rcases lt2 hp.1 with rfl | rfl
  · exact r7_of1 (K := Kc415) (t := 0) hp (vc415 (d + 10)) (by decide +kernel) h8 hI ht ⟨⟨rfl, List.mem_singleton.mpr rfl⟩, trivial⟩ (fun v M' hv hL' h1 h2 => iV hv (fun x e => e ▸ h x M' hL' h1 (kpw h2 (by decide +kernel))))
  · exact r7_of1 (K := Kc488) (t := 0) hp (vc488 (d + 11)) (by decide +kernel) h8 hI ht ⟨⟨rfl, List.mem_singleton.mpr rfl⟩, trivial⟩ (fun v M' hv hL' h1 h2 => iV hv (fun x e => e ▸ h x M' hL' h1 (kpw h2 (by decide +kernel))))
noncomputable def m7_give : Md3 := [(150, 0, 0), (150, 11, 11), (150, 22, 22), (157, 18, 22), (158, 0, 399)]
theorem p7_give (d : Nat) {x1 x2 : Int32} (hL : LI M) (h : ∀ (x : Int32) (M' : Mm), LI M' → M'.1 = M.1 → kp m7_give M M' → kr (some (.int x)) M') : Ev l X uX7_give (d + 12) true 0 0 [.ref 150, .int x1, .int x2] M kr := by
  obtain ⟨h8, ⟨p, hp, hI⟩, ht⟩ := hL
  rcases lt2 hp.1 with rfl | rfl
  · exact r7_of1 (K := Kc416) (t := 0) hp (vc416 (d + 10)) (by decide +kernel) h8 hI ht ⟨⟨rfl, List.mem_singleton.mpr rfl⟩, ⟨⟨rfl, i32_lo _, i32_hi _⟩, ⟨⟨rfl, i32_lo _, i32_hi _⟩, trivial⟩⟩⟩ (fun v M' hv hL' h1 h2 => iV hv (fun x e => e ▸ h x M' hL' h1 (kpw h2 (by decide +kernel))))
  · exact r7_of1 (K := Kc489) (t := 0) hp (vc489 (d + 10)) (by decide +kernel) h8 hI ht ⟨⟨rfl, List.mem_singleton.mpr rfl⟩, ⟨⟨rfl, i32_lo _, i32_hi _⟩, ⟨⟨rfl, i32_lo _, i32_hi _⟩, trivial⟩⟩⟩ (fun v M' hv hL' h1 h2 => iV hv (fun x e => e ▸ h x M' hL' h1 (kpw h2 (by decide +kernel))))
noncomputable def m7_mend : Md3 := [(150, 0, 0), (150, 11, 11), (150, 22, 22), (157, 0, 11), (158, 0, 399)]
theorem p7_mend (d : Nat) {x1 : Int32} (hL : LI M) (h : ∀ (x : Int32) (M' : Mm), LI M' → M'.1 = M.1 → kp m7_mend M M' → kr (some (.int x)) M') : Ev l X uX7_mend (d + 12) true 0 0 [.ref 150, .int x1] M kr := by
  obtain ⟨h8, ⟨p, hp, hI⟩, ht⟩ := hL
  rcases lt2 hp.1 with rfl | rfl
  · exact r7_of1 (K := Kc418) (t := 0) hp (vc418 (d + 10)) (by decide +kernel) h8 hI ht ⟨⟨rfl, List.mem_singleton.mpr rfl⟩, ⟨⟨rfl, i32_lo _, i32_hi _⟩, trivial⟩⟩ (fun v M' hv hL' h1 h2 => iV hv (fun x e => e ▸ h x M' hL' h1 (kpw h2 (by decide +kernel))))
  · exact r7_of1 (K := Kc491) (t := 0) hp (vc491 (d + 10)) (by decide +kernel) h8 hI ht ⟨⟨rfl, List.mem_singleton.mpr rfl⟩, ⟨⟨rfl, i32_lo _, i32_hi _⟩, trivial⟩⟩ (fun v M' hv hL' h1 h2 => iV hv (fun x e => e ▸ h x M' hL' h1 (kpw h2 (by decide +kernel))))
noncomputable def m7_vex : Md3 := [(150, 0, 0), (150, 11, 11), (150, 22, 22), (157, 6, 11), (158, 0, 399)]
theorem p7_vex (d : Nat) {x1 x2 : Int32} (hL : LI M) (h : ∀ (x : Int32) (M' : Mm), LI M' → M'.1 = M.1 → kp m7_vex M M' → kr (some (.int x)) M') : Ev l X uX7_vex (d + 12) true 0 0 [.ref 150, .int x1, .int x2] M kr := by
  obtain ⟨h8, ⟨p, hp, hI⟩, ht⟩ := hL
  rcases lt2 hp.1 with rfl | rfl
  · exact r7_of1 (K := Kc420) (t := 0) hp (vc420 (d + 10)) (by decide +kernel) h8 hI ht ⟨⟨rfl, List.mem_singleton.mpr rfl⟩, ⟨⟨rfl, i32_lo _, i32_hi _⟩, ⟨⟨rfl, i32_lo _, i32_hi _⟩, trivial⟩⟩⟩ (fun v M' hv hL' h1 h2 => iV hv (fun x e => e ▸ h x M' hL' h1 (kpw h2 (by decide +kernel))))
  · exact r7_of1 (K := Kc493) (t := 0) hp (vc493 (d + 10)) (by decide +kernel) h8 hI ht ⟨⟨rfl, List.mem_singleton.mpr rfl⟩, ⟨⟨rfl, i32_lo _, i32_hi _⟩, ⟨⟨rfl, i32_lo _, i32_hi _⟩, trivial⟩⟩⟩ (fun v M' hv hL' h1 h2 => iV hv (fun x e => e ▸ h x M' hL' h1 (kpw h2 (by decide +kernel))))
noncomputable def m7_undo : Md3 := [(150, 0, 0), (150, 11, 11), (150, 22, 22), (157, 0, 24)]
theorem p7_undo (d : Nat) (hL : LI M) (h : ∀ (x : Int32) (M' : Mm), LI M' → M'.1 = M.1 → kp m7_undo M M' → kr (some (.int x)) M') : Ev l X uX7_undo (d + 12) true 0 0 [.ref 150] M kr := by
  obtain ⟨h8, ⟨p, hp, hI⟩, ht⟩ := hL
  rcases lt2 hp.1 with rfl | rfl
  · exact r7_of1 (K := Kc421) (t := 0) hp (vc421 (d + 11)) (by decide +kernel) h8 hI ht ⟨⟨rfl, List.mem_singleton.mpr rfl⟩, trivial⟩ (fun v M' hv hL' h1 h2 => iV hv (fun x e => e ▸ h x M' hL' h1 (kpw h2 (by decide +kernel))))
  · exact r7_of1 (K := Kc494) (t := 0) hp (vc494 (d + 11)) (by decide +kernel) h8 hI ht ⟨⟨rfl, List.mem_singleton.mpr rfl⟩, trivial⟩ (fun v M' hv hL' h1 h2 => iV hv (fun x e => e ▸ h x M' hL' h1 (kpw h2 (by decide +kernel))))
noncomputable def m7_image : Md3 := [(150, 0, 0), (150, 11, 11), (150, 23, 23), (159, 0, 74)]
theorem p7_image (d : Nat) (hL : LI M) (h : ∀ (x : Int32) (M' : Mm), LI M' → M'.1 = M.1 → kp m7_image M M' → kr (some (.int x)) M') : Ev l X uX7_image (d + 12) true 0 0 [.ref 150] M kr := by
  obtain ⟨h8, ⟨p, hp, hI⟩, ht⟩ := hL
  rcases lt2 hp.1 with rfl | rfl
  · exact r7_of1 (K := Kc422) (t := 0) hp (vc422 (d + 11)) (by decide +kernel) h8 hI ht ⟨⟨rfl, List.mem_singleton.mpr rfl⟩, trivial⟩ (fun v M' hv hL' h1 h2 => iV hv (fun x e => e ▸ h x M' hL' h1 (kpw h2 (by decide +kernel))))
  · exact r7_of1 (K := Kc495) (t := 0) hp (vc495 (d + 11)) (by decide +kernel) h8 hI ht ⟨⟨rfl, List.mem_singleton.mpr rfl⟩, trivial⟩ (fun v M' hv hL' h1 h2 => iV hv (fun x e => e ▸ h x M' hL' h1 (kpw h2 (by decide +kernel))))
noncomputable def m7_back : Md3 := [(150, 0, 0), (150, 11, 11), (150, 22, 22), (157, 0, 24)]
theorem p7_back (d : Nat) {x1 : Int32} (hL : LI M) (h : ∀ (x : Int32) (M' : Mm), LI M' → M'.1 = M.1 → kp m7_back M M' → kr (some (.int x)) M') : Ev l X uX7_back (d + 12) true 0 0 [.ref 150, .int x1] M kr := by
  obtain ⟨h8, ⟨p, hp, hI⟩, ht⟩ := hL
  rcases lt2 hp.1 with rfl | rfl
  · exact r7_of1 (K := Kc424) (t := 0) hp (vc424 (d + 11)) (by decide +kernel) h8 hI ht ⟨⟨rfl, List.mem_singleton.mpr rfl⟩, ⟨⟨rfl, i32_lo _, i32_hi _⟩, trivial⟩⟩ (fun v M' hv hL' h1 h2 => iV hv (fun x e => e ▸ h x M' hL' h1 (kpw h2 (by decide +kernel))))
  · exact r7_of1 (K := Kc497) (t := 0) hp (vc497 (d + 11)) (by decide +kernel) h8 hI ht ⟨⟨rfl, List.mem_singleton.mpr rfl⟩, ⟨⟨rfl, i32_lo _, i32_hi _⟩, trivial⟩⟩ (fun v M' hv hL' h1 h2 => iV hv (fun x e => e ▸ h x M' hL' h1 (kpw h2 (by decide +kernel))))
noncomputable def m7_led : Md3 := [(150, 0, 0)]
theorem p7_led (d : Nat) {x1 : Int32} (hL : LI M) (h : ∀ (x : Int32) (M' : Mm), LI M' → M'.1 = M.1 → kp m7_led M M' → kr (some (.int x)) M') : Ev l X uX7_led (d + 12) true 0 0 [.ref 150, .int x1] M kr := by
  obtain ⟨h8, ⟨p, hp, hI⟩, ht⟩ := hL
  rcases lt2 hp.1 with rfl | rfl
  · exact r7_of1 (K := Kc425) (t := 0) hp (vc425 (d + 11)) (by decide +kernel) h8 hI ht ⟨⟨rfl, List.mem_singleton.mpr rfl⟩, ⟨⟨rfl, i32_lo _, i32_hi _⟩, trivial⟩⟩ (fun v M' hv hL' h1 h2 => iV hv (fun x e => e ▸ h x M' hL' h1 (kpw h2 (by decide +kernel))))
  · exact r7_of1 (K := Kc498) (t := 0) hp (vc498 (d + 11)) (by decide +kernel) h8 hI ht ⟨⟨rfl, List.mem_singleton.mpr rfl⟩, ⟨⟨rfl, i32_lo _, i32_hi _⟩, trivial⟩⟩ (fun v M' hv hL' h1 h2 => iV hv (fun x e => e ▸ h x M' hL' h1 (kpw h2 (by decide +kernel))))
end PUB
end
section
section PUB
variable {l : Launch} {X : Nat × (Nat → Int32)} {M : Mm} {kr : KR}
noncomputable def m7_size : Md3 := [(150, 0, 0)]
theorem p7_size (d : Nat) {x1 : Int32} (hL : LI M) (h : ∀ (x : Int32) (M' : Mm), LI M' → M'.1 = M.1 → kp m7_size M M' → kr (some (.int x)) M') : Ev l X uX7_size (d + 12) true 0 0 [.ref 150, .int x1] M kr := by
  obtain ⟨h8, ⟨p, hp, hI⟩, ht⟩ := hL
  rcases lt2 hp.1 with rfl | rfl
  · exact r7_of1 (K := Kc427) (t := 0) hp (vc427 (d + 11)) (by decide +kernel) h8 hI ht ⟨⟨rfl, List.mem_singleton.mpr rfl⟩, ⟨⟨rfl, i32_lo _, i32_hi _⟩, trivial⟩⟩ (fun v M' hv hL' h1 h2 => iV hv (fun x e => e ▸ h x M' hL' h1 (kpw h2 (by decide +kernel))))
  · exact r7_of1 (K := Kc500) (t := 0) hp (vc500 (d + 11)) (by decide +kernel) h8 hI ht ⟨⟨rfl, List.mem_singleton.mpr rfl⟩, ⟨⟨rfl, i32_lo _, i32_hi _⟩, trivial⟩⟩ (fun v M' hv hL' h1 h2 => iV hv (fun x e => e ▸ h x M' hL' h1 (kpw h2 (by decide +kernel))))
noncomputable def m7_trouble : Md3 := [(150, 0, 0)]
theorem p7_trouble (d : Nat) (hL : LI M) (h : ∀ (x : Int32) (M' : Mm), LI M' → M'.1 = M.1 → kp m7_trouble M M' → kr (some (.int x)) M') : Ev l X uX7_trouble (d + 12) true 0 0 [.ref 150] M kr := by
  obtain ⟨h8, ⟨p, hp, hI⟩, ht⟩ := hL
  rcases lt2 hp.1 with rfl | rfl
  · exact r7_of1 (K := Kc428) (t := 0) hp (vc428 (d + 12)) (by decide +kernel) h8 hI ht ⟨⟨rfl, List.mem_singleton.mpr rfl⟩, trivial⟩ (fun v M' hv hL' h1 h2 => iV hv (fun x e => e ▸ h x M' hL' h1 (kpw h2 (by decide +kernel))))
  · exact r7_of1 (K := Kc501) (t := 0) hp (vc501 (d + 12)) (by decide +kernel) h8 hI ht ⟨⟨rfl, List.mem_singleton.mpr rfl⟩, trivial⟩ (fun v M' hv hL' h1 h2 => iV hv (fun x e => e ▸ h x M' hL' h1 (kpw h2 (by decide +kernel))))
noncomputable def m7_fault : Md3 := [(150, 0, 0)]
theorem p7_fault (d : Nat) (hL : LI M) (h : ∀ (x : Int32) (M' : Mm), LI M' → M'.1 = M.1 → kp m7_fault M M' → kr (some (.int x)) M') : Ev l X uX7_fault (d + 12) true 0 0 [.ref 150] M kr := by
  obtain ⟨h8, ⟨p, hp, hI⟩, ht⟩ := hL
  rcases lt2 hp.1 with rfl | rfl
  · exact r7_of1 (K := Kc429) (t := 0) hp (vc429 (d + 12)) (by decide +kernel) h8 hI ht ⟨⟨rfl, List.mem_singleton.mpr rfl⟩, trivial⟩ (fun v M' hv hL' h1 h2 => iV hv (fun x e => e ▸ h x M' hL' h1 (kpw h2 (by decide +kernel))))
  · exact r7_of1 (K := Kc502) (t := 0) hp (vc502 (d + 12)) (by decide +kernel) h8 hI ht ⟨⟨rfl, List.mem_singleton.mpr rfl⟩, trivial⟩ (fun v M' hv hL' h1 h2 => iV hv (fun x e => e ▸ h x M' hL' h1 (kpw h2 (by decide +kernel))))
noncomputable def m7_where : Md3 := [(150, 0, 0)]
theorem p7_where (d : Nat) (hL : LI M) (h : ∀ (x : Int32) (M' : Mm), LI M' → M'.1 = M.1 → kp m7_where M M' → kr (some (.int x)) M') : Ev l X uX7_where (d + 12) true 0 0 [.ref 150] M kr := by
  obtain ⟨h8, ⟨p, hp, hI⟩, ht⟩ := hL
  rcases lt2 hp.1 with rfl | rfl
  · exact r7_of1 (K := Kc430) (t := 0) hp (vc430 (d + 12)) (by decide +kernel) h8 hI ht ⟨⟨rfl, List.mem_singleton.mpr rfl⟩, trivial⟩ (fun v M' hv hL' h1 h2 => iV hv (fun x e => e ▸ h x M' hL' h1 (kpw h2 (by decide +kernel))))
  · exact r7_of1 (K := Kc503) (t := 0) hp (vc503 (d + 12)) (by decide +kernel) h8 hI ht ⟨⟨rfl, List.mem_singleton.mpr rfl⟩, trivial⟩ (fun v M' hv hL' h1 h2 => iV hv (fun x e => e ▸ h x M' hL' h1 (kpw h2 (by decide +kernel))))
end PUB
end
section
/-! the memory behind the constructors: 1 the close, 2 its reader, 7 and 20 the plans, 33 now, 38 kept, 39 images, 40 the course, 41 ways, 43 matching, 54 wetOn, 55 + 5 i the kept moments, 135 + 5 j the images, 150 the reference, 167 out -/
noncomputable def K0 (a : Nat) : Nat × Nat := cond (Nat.ble a 83) (cond (Nat.ble a 41) (cond (Nat.ble a 20) (cond (Nat.ble a 10) (cond (Nat.ble a 5) (cond (Nat.ble a 2) (cond (Nat.ble a 1) (cond (Nat.ble a 0) ((0, 0)) ((6, 0))) ((4, 0))) (cond (Nat.ble a 4) (cond (Nat.ble a 3) ((8, 900)) ((10, 15))) ((9, 15)))) (cond (Nat.ble a 8) (cond (Nat.ble a 7) (cond (Nat.ble a 6) ((9, 15)) ((3, 0))) ((9, 6))) (cond (Nat.ble a 9) ((9, 6)) ((9, 6))))) (cond (Nat.ble a 15) (cond (Nat.ble a 13) (cond (Nat.ble a 12) (cond (Nat.ble a 11) ((9, 6)) ((9, 6))) ((9, 5))) (cond (Nat.ble a 14) ((9, 5)) ((9, 5)))) (cond (Nat.ble a 18) (cond (Nat.ble a 17) (cond (Nat.ble a 16) ((9, 4)) ((9, 4))) ((9, 4))) (cond (Nat.ble a 19) ((9, 4)) ((3, 0)))))) (cond (Nat.ble a 31) (cond (Nat.ble a 26) (cond (Nat.ble a 23) (cond (Nat.ble a 22) (cond (Nat.ble a 21) ((9, 6)) ((9, 6))) ((9, 6))) (cond (Nat.ble a 25) (cond (Nat.ble a 24) ((9, 6)) ((9, 6))) ((9, 5)))) (cond (Nat.ble a 29) (cond (Nat.ble a 28) (cond (Nat.ble a 27) ((9, 5)) ((9, 5))) ((9, 4))) (cond (Nat.ble a 30) ((9, 4)) ((9, 4))))) (cond (Nat.ble a 36) (cond (Nat.ble a 34) (cond (Nat.ble a 33) (cond (Nat.ble a 32) ((9, 4)) ((2, 0))) ((9, 6))) (cond (Nat.ble a 35) ((9, 6)) ((9, 6)))) (cond (Nat.ble a 39) (cond (Nat.ble a 38) (cond (Nat.ble a 37) ((9, 5)) ((11, 16))) ((11, 3))) (cond (Nat.ble a 40) ((0, 0)) ((5, 0))))))) (cond (Nat.ble a 62) (cond (Nat.ble a 52) (cond (Nat.ble a 47) (cond (Nat.ble a 44) (cond (Nat.ble a 43) (cond (Nat.ble a 42) ((9, 20)) ((1, 0))) ((12, 6))) (cond (Nat.ble a 46) (cond (Nat.ble a 45) ((9, 5)) ((9, 5))) ((9, 5)))) (cond (Nat.ble a 50) (cond (Nat.ble a 49) (cond (Nat.ble a 48) ((9, 5)) ((9, 5))) ((9, 5))) (cond (Nat.ble a 51) ((9, 6)) ((9, 5))))) (cond (Nat.ble a 57) (cond (Nat.ble a 55) (cond (Nat.ble a 54) (cond (Nat.ble a 53) ((9, 5)) ((9, 61))) ((2, 0))) (cond (Nat.ble a 56) ((9, 6)) ((9, 6)))) (cond (Nat.ble a 60) (cond (Nat.ble a 59) (cond (Nat.ble a 58) ((9, 6)) ((9, 5))) ((2, 0))) (cond (Nat.ble a 61) ((9, 6)) ((9, 6)))))) (cond (Nat.ble a 73) (cond (Nat.ble a 68) (cond (Nat.ble a 65) (cond (Nat.ble a 64) (cond (Nat.ble a 63) ((9, 6)) ((9, 5))) ((2, 0))) (cond (Nat.ble a 67) (cond (Nat.ble a 66) ((9, 6)) ((9, 6))) ((9, 6)))) (cond (Nat.ble a 71) (cond (Nat.ble a 70) (cond (Nat.ble a 69) ((9, 5)) ((2, 0))) ((9, 6))) (cond (Nat.ble a 72) ((9, 6)) ((9, 6))))) (cond (Nat.ble a 78) (cond (Nat.ble a 76) (cond (Nat.ble a 75) (cond (Nat.ble a 74) ((9, 5)) ((2, 0))) ((9, 6))) (cond (Nat.ble a 77) ((9, 6)) ((9, 6)))) (cond (Nat.ble a 81) (cond (Nat.ble a 80) (cond (Nat.ble a 79) ((9, 5)) ((2, 0))) ((9, 6))) (cond (Nat.ble a 82) ((9, 6)) ((9, 6)))))))) (cond (Nat.ble a 125) (cond (Nat.ble a 104) (cond (Nat.ble a 94) (cond (Nat.ble a 89) (cond (Nat.ble a 86) (cond (Nat.ble a 85) (cond (Nat.ble a 84) ((9, 5)) ((2, 0))) ((9, 6))) (cond (Nat.ble a 88) (cond (Nat.ble a 87) ((9, 6)) ((9, 6))) ((9, 5)))) (cond (Nat.ble a 92) (cond (Nat.ble a 91) (cond (Nat.ble a 90) ((2, 0)) ((9, 6))) ((9, 6))) (cond (Nat.ble a 93) ((9, 6)) ((9, 5))))) (cond (Nat.ble a 99) (cond (Nat.ble a 97) (cond (Nat.ble a 96) (cond (Nat.ble a 95) ((2, 0)) ((9, 6))) ((9, 6))) (cond (Nat.ble a 98) ((9, 6)) ((9, 5)))) (cond (Nat.ble a 102) (cond (Nat.ble a 101) (cond (Nat.ble a 100) ((2, 0)) ((9, 6))) ((9, 6))) (cond (Nat.ble a 103) ((9, 6)) ((9, 5)))))) (cond (Nat.ble a 115) (cond (Nat.ble a 110) (cond (Nat.ble a 107) (cond (Nat.ble a 106) (cond (Nat.ble a 105) ((2, 0)) ((9, 6))) ((9, 6))) (cond (Nat.ble a 109) (cond (Nat.ble a 108) ((9, 6)) ((9, 5))) ((2, 0)))) (cond (Nat.ble a 113) (cond (Nat.ble a 112) (cond (Nat.ble a 111) ((9, 6)) ((9, 6))) ((9, 6))) (cond (Nat.ble a 114) ((9, 5)) ((2, 0))))) (cond (Nat.ble a 120) (cond (Nat.ble a 118) (cond (Nat.ble a 117) (cond (Nat.ble a 116) ((9, 6)) ((9, 6))) ((9, 6))) (cond (Nat.ble a 119) ((9, 5)) ((2, 0)))) (cond (Nat.ble a 123) (cond (Nat.ble a 122) (cond (Nat.ble a 121) ((9, 6)) ((9, 6))) ((9, 6))) (cond (Nat.ble a 124) ((9, 5)) ((2, 0))))))) (cond (Nat.ble a 146) (cond (Nat.ble a 136) (cond (Nat.ble a 131) (cond (Nat.ble a 128) (cond (Nat.ble a 127) (cond (Nat.ble a 126) ((9, 6)) ((9, 6))) ((9, 6))) (cond (Nat.ble a 130) (cond (Nat.ble a 129) ((9, 5)) ((2, 0))) ((9, 6)))) (cond (Nat.ble a 134) (cond (Nat.ble a 133) (cond (Nat.ble a 132) ((9, 6)) ((9, 6))) ((9, 5))) (cond (Nat.ble a 135) ((2, 0)) ((9, 6))))) (cond (Nat.ble a 141) (cond (Nat.ble a 139) (cond (Nat.ble a 138) (cond (Nat.ble a 137) ((9, 6)) ((9, 6))) ((9, 5))) (cond (Nat.ble a 140) ((2, 0)) ((9, 6)))) (cond (Nat.ble a 144) (cond (Nat.ble a 143) (cond (Nat.ble a 142) ((9, 6)) ((9, 6))) ((9, 5))) (cond (Nat.ble a 145) ((2, 0)) ((9, 6)))))) (cond (Nat.ble a 157) (cond (Nat.ble a 152) (cond (Nat.ble a 149) (cond (Nat.ble a 148) (cond (Nat.ble a 147) ((9, 6)) ((9, 6))) ((9, 5))) (cond (Nat.ble a 151) (cond (Nat.ble a 150) ((7, 0)) ((9, 900))) ((9, 8)))) (cond (Nat.ble a 155) (cond (Nat.ble a 154) (cond (Nat.ble a 153) ((9, 202)) ((9, 202))) ((9, 25))) (cond (Nat.ble a 156) ((9, 25)) ((9, 25))))) (cond (Nat.ble a 162) (cond (Nat.ble a 160) (cond (Nat.ble a 159) (cond (Nat.ble a 158) ((9, 400)) ((9, 75))) ((9, 5))) (cond (Nat.ble a 161) ((9, 25)) ((9, 5)))) (cond (Nat.ble a 165) (cond (Nat.ble a 164) (cond (Nat.ble a 163) ((9, 5)) ((9, 20))) ((9, 6))) (cond (Nat.ble a 166) ((9, 4)) ((10, 1))))))))
noncomputable def R0_1 (p r k : Nat) : Nat := cond (Nat.beq k 0) 2 (cond (Nat.beq k 1) p (cond (Nat.beq k 2) (27 - p) (cond (Nat.beq k 3) 33 (cond (Nat.beq k 4) 38 (cond (Nat.beq k 7) 39 (cond (Nat.beq k 9) 40 (cond (Nat.beq k 10) 41 (cond (Nat.beq k 11) 43 (cond (Nat.beq k 12) 54 (0))))))))))
noncomputable def R0_2 (p r k : Nat) : Nat := cond (Nat.beq k 0) 3 (cond (Nat.beq k 3) r (cond (Nat.beq k 9) 4 (cond (Nat.beq k 10) 5 (cond (Nat.beq k 11) 6 (0)))))
noncomputable def R0_7 (p r k : Nat) : Nat := cond (Nat.beq k 5) 8 (cond (Nat.beq k 6) 9 (cond (Nat.beq k 7) 10 (cond (Nat.beq k 8) 11 (cond (Nat.beq k 9) 12 (cond (Nat.beq k 11) 13 (cond (Nat.beq k 12) 14 (cond (Nat.beq k 13) 15 (cond (Nat.beq k 15) 16 (cond (Nat.beq k 16) 17 (cond (Nat.beq k 18) 18 (cond (Nat.beq k 19) 19 (0))))))))))))
noncomputable def R0_20 (p r k : Nat) : Nat := cond (Nat.beq k 5) 21 (cond (Nat.beq k 6) 22 (cond (Nat.beq k 7) 23 (cond (Nat.beq k 8) 24 (cond (Nat.beq k 9) 25 (cond (Nat.beq k 11) 26 (cond (Nat.beq k 12) 27 (cond (Nat.beq k 13) 28 (cond (Nat.beq k 15) 29 (cond (Nat.beq k 16) 30 (cond (Nat.beq k 18) 31 (cond (Nat.beq k 19) 32 (0))))))))))))
noncomputable def R0_33 (p r k : Nat) : Nat := cond (Nat.beq k 0) 34 (cond (Nat.beq k 1) 35 (cond (Nat.beq k 2) 36 (cond (Nat.beq k 3) 37 (0))))
noncomputable def R0_38 (p r k : Nat) : Nat := cond (Nat.blt k 16) (55 + 5 * k) 0
noncomputable def R0_39 (p r k : Nat) : Nat := cond (Nat.blt k 3) (135 + 5 * k) 0
noncomputable def R0_41 (p r k : Nat) : Nat := cond (Nat.beq k 0) 42 (0)
noncomputable def R0_43 (p r k : Nat) : Nat := cond (Nat.beq k 0) 44 (cond (Nat.beq k 1) 51 (cond (Nat.beq k 2) 52 (cond (Nat.beq k 3) 53 (0))))
noncomputable def R0_44 (p r k : Nat) : Nat := cond (Nat.blt k 6) (45 + k) 0
noncomputable def R0_55 (p r k : Nat) : Nat := cond (Nat.beq k 0) 56 (cond (Nat.beq k 1) 57 (cond (Nat.beq k 2) 58 (cond (Nat.beq k 3) 59 (0))))
noncomputable def R0_60 (p r k : Nat) : Nat := cond (Nat.beq k 0) 61 (cond (Nat.beq k 1) 62 (cond (Nat.beq k 2) 63 (cond (Nat.beq k 3) 64 (0))))
noncomputable def R0_65 (p r k : Nat) : Nat := cond (Nat.beq k 0) 66 (cond (Nat.beq k 1) 67 (cond (Nat.beq k 2) 68 (cond (Nat.beq k 3) 69 (0))))
noncomputable def R0_70 (p r k : Nat) : Nat := cond (Nat.beq k 0) 71 (cond (Nat.beq k 1) 72 (cond (Nat.beq k 2) 73 (cond (Nat.beq k 3) 74 (0))))
noncomputable def R0_75 (p r k : Nat) : Nat := cond (Nat.beq k 0) 76 (cond (Nat.beq k 1) 77 (cond (Nat.beq k 2) 78 (cond (Nat.beq k 3) 79 (0))))
noncomputable def R0_80 (p r k : Nat) : Nat := cond (Nat.beq k 0) 81 (cond (Nat.beq k 1) 82 (cond (Nat.beq k 2) 83 (cond (Nat.beq k 3) 84 (0))))
noncomputable def R0_85 (p r k : Nat) : Nat := cond (Nat.beq k 0) 86 (cond (Nat.beq k 1) 87 (cond (Nat.beq k 2) 88 (cond (Nat.beq k 3) 89 (0))))
noncomputable def R0_90 (p r k : Nat) : Nat := cond (Nat.beq k 0) 91 (cond (Nat.beq k 1) 92 (cond (Nat.beq k 2) 93 (cond (Nat.beq k 3) 94 (0))))
noncomputable def R0_95 (p r k : Nat) : Nat := cond (Nat.beq k 0) 96 (cond (Nat.beq k 1) 97 (cond (Nat.beq k 2) 98 (cond (Nat.beq k 3) 99 (0))))
noncomputable def R0_100 (p r k : Nat) : Nat := cond (Nat.beq k 0) 101 (cond (Nat.beq k 1) 102 (cond (Nat.beq k 2) 103 (cond (Nat.beq k 3) 104 (0))))
noncomputable def R0_105 (p r k : Nat) : Nat := cond (Nat.beq k 0) 106 (cond (Nat.beq k 1) 107 (cond (Nat.beq k 2) 108 (cond (Nat.beq k 3) 109 (0))))
noncomputable def R0_110 (p r k : Nat) : Nat := cond (Nat.beq k 0) 111 (cond (Nat.beq k 1) 112 (cond (Nat.beq k 2) 113 (cond (Nat.beq k 3) 114 (0))))
noncomputable def R0_115 (p r k : Nat) : Nat := cond (Nat.beq k 0) 116 (cond (Nat.beq k 1) 117 (cond (Nat.beq k 2) 118 (cond (Nat.beq k 3) 119 (0))))
noncomputable def R0_120 (p r k : Nat) : Nat := cond (Nat.beq k 0) 121 (cond (Nat.beq k 1) 122 (cond (Nat.beq k 2) 123 (cond (Nat.beq k 3) 124 (0))))
noncomputable def R0_125 (p r k : Nat) : Nat := cond (Nat.beq k 0) 126 (cond (Nat.beq k 1) 127 (cond (Nat.beq k 2) 128 (cond (Nat.beq k 3) 129 (0))))
noncomputable def R0_130 (p r k : Nat) : Nat := cond (Nat.beq k 0) 131 (cond (Nat.beq k 1) 132 (cond (Nat.beq k 2) 133 (cond (Nat.beq k 3) 134 (0))))
noncomputable def R0_135 (p r k : Nat) : Nat := cond (Nat.beq k 0) 136 (cond (Nat.beq k 1) 137 (cond (Nat.beq k 2) 138 (cond (Nat.beq k 3) 139 (0))))
noncomputable def R0_140 (p r k : Nat) : Nat := cond (Nat.beq k 0) 141 (cond (Nat.beq k 1) 142 (cond (Nat.beq k 2) 143 (cond (Nat.beq k 3) 144 (0))))
noncomputable def R0_145 (p r k : Nat) : Nat := cond (Nat.beq k 0) 146 (cond (Nat.beq k 1) 147 (cond (Nat.beq k 2) 148 (cond (Nat.beq k 3) 149 (0))))
noncomputable def R0_150 (p r k : Nat) : Nat := cond (Nat.beq k 1) 151 (cond (Nat.beq k 12) 152 (cond (Nat.beq k 15) 153 (cond (Nat.beq k 16) 154 (cond (Nat.beq k 17) 155 (cond (Nat.beq k 18) 156 (cond (Nat.beq k 19) 157 (cond (Nat.beq k 20) 158 (cond (Nat.beq k 21) 159 (cond (Nat.beq k 24) 160 (cond (Nat.beq k 25) 161 (cond (Nat.beq k 27) 162 (cond (Nat.beq k 28) 163 (cond (Nat.beq k 33) 164 (cond (Nat.beq k 34) 165 (cond (Nat.beq k 35) 166 (0))))))))))))))))
noncomputable def R0 (p r a k : Nat) : Nat := cond (Nat.ble a 83) (cond (Nat.ble a 41) (cond (Nat.ble a 20) (cond (Nat.ble a 10) (cond (Nat.ble a 5) (cond (Nat.ble a 2) (cond (Nat.ble a 1) (cond (Nat.ble a 0) (0) (R0_1 p r k)) (R0_2 p r k)) (cond (Nat.ble a 4) (cond (Nat.ble a 3) (0) (0)) (0))) (cond (Nat.ble a 8) (cond (Nat.ble a 7) (cond (Nat.ble a 6) (0) (R0_7 p r k)) (0)) (cond (Nat.ble a 9) (0) (0)))) (cond (Nat.ble a 15) (cond (Nat.ble a 13) (cond (Nat.ble a 12) (cond (Nat.ble a 11) (0) (0)) (0)) (cond (Nat.ble a 14) (0) (0))) (cond (Nat.ble a 18) (cond (Nat.ble a 17) (cond (Nat.ble a 16) (0) (0)) (0)) (cond (Nat.ble a 19) (0) (R0_20 p r k))))) (cond (Nat.ble a 31) (cond (Nat.ble a 26) (cond (Nat.ble a 23) (cond (Nat.ble a 22) (cond (Nat.ble a 21) (0) (0)) (0)) (cond (Nat.ble a 25) (cond (Nat.ble a 24) (0) (0)) (0))) (cond (Nat.ble a 29) (cond (Nat.ble a 28) (cond (Nat.ble a 27) (0) (0)) (0)) (cond (Nat.ble a 30) (0) (0)))) (cond (Nat.ble a 36) (cond (Nat.ble a 34) (cond (Nat.ble a 33) (cond (Nat.ble a 32) (0) (R0_33 p r k)) (0)) (cond (Nat.ble a 35) (0) (0))) (cond (Nat.ble a 39) (cond (Nat.ble a 38) (cond (Nat.ble a 37) (0) (R0_38 p r k)) (R0_39 p r k)) (cond (Nat.ble a 40) (0) (R0_41 p r k)))))) (cond (Nat.ble a 62) (cond (Nat.ble a 52) (cond (Nat.ble a 47) (cond (Nat.ble a 44) (cond (Nat.ble a 43) (cond (Nat.ble a 42) (0) (R0_43 p r k)) (R0_44 p r k)) (cond (Nat.ble a 46) (cond (Nat.ble a 45) (0) (0)) (0))) (cond (Nat.ble a 50) (cond (Nat.ble a 49) (cond (Nat.ble a 48) (0) (0)) (0)) (cond (Nat.ble a 51) (0) (0)))) (cond (Nat.ble a 57) (cond (Nat.ble a 55) (cond (Nat.ble a 54) (cond (Nat.ble a 53) (0) (0)) (R0_55 p r k)) (cond (Nat.ble a 56) (0) (0))) (cond (Nat.ble a 60) (cond (Nat.ble a 59) (cond (Nat.ble a 58) (0) (0)) (R0_60 p r k)) (cond (Nat.ble a 61) (0) (0))))) (cond (Nat.ble a 73) (cond (Nat.ble a 68) (cond (Nat.ble a 65) (cond (Nat.ble a 64) (cond (Nat.ble a 63) (0) (0)) (R0_65 p r k)) (cond (Nat.ble a 67) (cond (Nat.ble a 66) (0) (0)) (0))) (cond (Nat.ble a 71) (cond (Nat.ble a 70) (cond (Nat.ble a 69) (0) (R0_70 p r k)) (0)) (cond (Nat.ble a 72) (0) (0)))) (cond (Nat.ble a 78) (cond (Nat.ble a 76) (cond (Nat.ble a 75) (cond (Nat.ble a 74) (0) (R0_75 p r k)) (0)) (cond (Nat.ble a 77) (0) (0))) (cond (Nat.ble a 81) (cond (Nat.ble a 80) (cond (Nat.ble a 79) (0) (R0_80 p r k)) (0)) (cond (Nat.ble a 82) (0) (0))))))) (cond (Nat.ble a 125) (cond (Nat.ble a 104) (cond (Nat.ble a 94) (cond (Nat.ble a 89) (cond (Nat.ble a 86) (cond (Nat.ble a 85) (cond (Nat.ble a 84) (0) (R0_85 p r k)) (0)) (cond (Nat.ble a 88) (cond (Nat.ble a 87) (0) (0)) (0))) (cond (Nat.ble a 92) (cond (Nat.ble a 91) (cond (Nat.ble a 90) (R0_90 p r k) (0)) (0)) (cond (Nat.ble a 93) (0) (0)))) (cond (Nat.ble a 99) (cond (Nat.ble a 97) (cond (Nat.ble a 96) (cond (Nat.ble a 95) (R0_95 p r k) (0)) (0)) (cond (Nat.ble a 98) (0) (0))) (cond (Nat.ble a 102) (cond (Nat.ble a 101) (cond (Nat.ble a 100) (R0_100 p r k) (0)) (0)) (cond (Nat.ble a 103) (0) (0))))) (cond (Nat.ble a 115) (cond (Nat.ble a 110) (cond (Nat.ble a 107) (cond (Nat.ble a 106) (cond (Nat.ble a 105) (R0_105 p r k) (0)) (0)) (cond (Nat.ble a 109) (cond (Nat.ble a 108) (0) (0)) (R0_110 p r k))) (cond (Nat.ble a 113) (cond (Nat.ble a 112) (cond (Nat.ble a 111) (0) (0)) (0)) (cond (Nat.ble a 114) (0) (R0_115 p r k)))) (cond (Nat.ble a 120) (cond (Nat.ble a 118) (cond (Nat.ble a 117) (cond (Nat.ble a 116) (0) (0)) (0)) (cond (Nat.ble a 119) (0) (R0_120 p r k))) (cond (Nat.ble a 123) (cond (Nat.ble a 122) (cond (Nat.ble a 121) (0) (0)) (0)) (cond (Nat.ble a 124) (0) (R0_125 p r k)))))) (cond (Nat.ble a 146) (cond (Nat.ble a 136) (cond (Nat.ble a 131) (cond (Nat.ble a 128) (cond (Nat.ble a 127) (cond (Nat.ble a 126) (0) (0)) (0)) (cond (Nat.ble a 130) (cond (Nat.ble a 129) (0) (R0_130 p r k)) (0))) (cond (Nat.ble a 134) (cond (Nat.ble a 133) (cond (Nat.ble a 132) (0) (0)) (0)) (cond (Nat.ble a 135) (R0_135 p r k) (0)))) (cond (Nat.ble a 141) (cond (Nat.ble a 139) (cond (Nat.ble a 138) (cond (Nat.ble a 137) (0) (0)) (0)) (cond (Nat.ble a 140) (R0_140 p r k) (0))) (cond (Nat.ble a 144) (cond (Nat.ble a 143) (cond (Nat.ble a 142) (0) (0)) (0)) (cond (Nat.ble a 145) (R0_145 p r k) (0))))) (cond (Nat.ble a 157) (cond (Nat.ble a 152) (cond (Nat.ble a 149) (cond (Nat.ble a 148) (cond (Nat.ble a 147) (0) (0)) (0)) (cond (Nat.ble a 151) (cond (Nat.ble a 150) (R0_150 p r k) (0)) (0))) (cond (Nat.ble a 155) (cond (Nat.ble a 154) (cond (Nat.ble a 153) (0) (0)) (0)) (cond (Nat.ble a 156) (0) (0)))) (cond (Nat.ble a 162) (cond (Nat.ble a 160) (cond (Nat.ble a 159) (cond (Nat.ble a 158) (0) (0)) (0)) (cond (Nat.ble a 161) (0) (0))) (cond (Nat.ble a 165) (cond (Nat.ble a 164) (cond (Nat.ble a 163) (0) (0)) (0)) (cond (Nat.ble a 166) (0) (0)))))))
noncomputable def mk (w : Nat × Nat) (p r : Nat) (I : Nat → Nat → Int32) (L : Nat → Nat → Int64) : Mm := ((167, w.1, w.2, K0), I, L, R0 p r)
noncomputable def u2 {α : Type} (I : Nat → Nat → α) (a i : Nat) (v : α) : Nat → Nat → α := fun b j => if b = a ∧ j = i then v else I b j
/-- a whole row -/
noncomputable def u1 (I : Nat → Nat → Int32) (a : Nat) (f : Nat → Int32) : Nat → Nat → Int32 := fun b j => if b = a then f j else I b j
theorem u2_s {α : Type} {I : Nat → Nat → α} {a i : Nat} {v : α} : u2 I a i v a i = v := if_pos ⟨rfl, rfl⟩
theorem u2_o {α : Type} {I : Nat → Nat → α} {a i b j : Nat} {v : α} (h : ¬ (b = a ∧ j = i)) : u2 I a i v b j = I b j := if_neg h
theorem u1_s {I : Nat → Nat → Int32} {a : Nat} {f : Nat → Int32} : u1 I a f a = f := funext fun j => if_pos rfl
theorem u1_o {I : Nat → Nat → Int32} {a b : Nat} {f : Nat → Int32} (h : b ≠ a) : u1 I a f b = I b := funext fun j => if_neg h
theorem mI_mk {w : Nat × Nat} {p r : Nat} {I : Nat → Nat → Int32} {L : Nat → Nat → Int64} {a i : Nat} : mI (mk w p r I L) a i = I a i := rfl
theorem wI_mk {w : Nat × Nat} {p r : Nat} {I : Nat → Nat → Int32} {L : Nat → Nat → Int64} {a i : Nat} {v : Int32} : wI (mk w p r I L) a i v = mk w p r (u2 I a i v) L := rfl
theorem b1 {P N A B : Prop} (hn : ¬ N) (a : A) : (P → A) ∧ (N → B) := ⟨fun _ => a, fun z => absurd z hn⟩
theorem b2 {P N A B : Prop} (hp : ¬ P) (b : B) : (P → A) ∧ (N → B) := ⟨fun z => absurd z hp, fun _ => b⟩
/-- from the end of a loop back to its beginning -/
theorem down (P : Nat → Prop) (e : Nat) (he : P e) (h : ∀ i, i < e → P (i + 1) → P i) : ∀ i, i ≤ e → P i := by
  intro i hi
  obtain ⟨n, hn⟩ : ∃ n, i + n = e := ⟨e - i, by omega⟩
  induction n generalizing i with
  | zero => rw [show i = e by omega]; exact he
  | succ n ih => exact h i (by omega) (ih (i + 1) (by omega) (by omega))
end
section
/-! ALLOCATION: new names. (The row of multianewarray was written after reading what the library's own shelf does there; nothing of the shelf is used.) -/
section ALLOC
variable {l : Launch} {X : Nat × (Nat → Int32)} {q : Md} {d : Nat} {b : Nat × Nat} {pc : Nat}
/-- a value that is no name beyond n -/
noncomputable def rk (n : Nat) (v : Value) : Bool := match v with
  | .ref a => Nat.ble a n || Nat.ble 4999 a
  | _ => true
theorem iv_rk {ad ad' : Nat → Nat} {n : Nat} (h : ∀ k, k ≤ n ∨ 4999 ≤ k → ad' k = ad k) : ∀ {v : Value}, rk n v = true → iv ad' v = iv ad v := by
  intro v hv
  cases v with
  | ref a =>
    have ha : a ≤ n ∨ 4999 ≤ a := by
      have hv : (Nat.ble a n || Nat.ble 4999 a) = true := hv
      rcases Bool.or_eq_true_iff.mp hv with z | z
      · exact Or.inl (Nat.le_of_ble_eq_true z)
      · exact Or.inr (Nat.le_of_ble_eq_true z)
    cases a with
    | zero => rfl
    | succ k => show Value.ref (ad' (k + 1)) = Value.ref (ad (k + 1)); rw [h _ ha]
  | _ => rfl
theorem ivs_rk {ad ad' : Nat → Nat} {n : Nat} (h : ∀ k, k ≤ n ∨ 4999 ≤ k → ad' k = ad k) {st : List Value} (hs : st.all (rk n) = true) : st.map (iv ad') = st.map (iv ad) :=
  List.map_congr_left fun v hv => iv_rk h (List.all_eq_true.mp hs v hv)
theorem lm_rk {ad ad' : Nat → Nat} {n : Nat} (h : ∀ k, k ≤ n ∨ 4999 ≤ k → ad' k = ad k) {ls : Ls} (hs : ls.all (fun x => rk n x.2) = true) : lm ad' ls = lm ad ls :=
  List.map_congr_left fun v hv => by rw [iv_rk h (List.all_eq_true.mp hs v hv)]
theorem eo_grow {ad ad' : Nat → Nat} {M M' : Mm} {a : Nat} {ts : List Nat} (hO : kO M) (h : ∀ k, k ≤ mN M ∨ 4999 ≤ k → ad' k = ad k) (h1 : mI M' a = mI M a) (h2 : mL M' a = mL M a) (h3 : mR M' a = mR M a) : eo ad' M' a ts = eo ad M a ts := by
  unfold eo
  refine List.map_congr_left fun k _ => ?_
  have e : sv M' a k (ts.getD k 0) = sv M a k (ts.getD k 0) := by unfold sv; rw [h1, h2, h3]
  rw [e]
  refine iv_rk h ?_
  unfold sv
  split
  · rfl
  · rfl
  · exact Bool.or_eq_true_iff.mpr (Or.inl (Nat.ble_eq_true_of_le (hO a k)))
theorem er_grow {ad ad' : Nat → Nat} {M M' : Mm} {a : Nat} (hO : kO M) (h : ∀ k, k ≤ mN M ∨ 4999 ≤ k → ad' k = ad k) (h3 : mR M' a = mR M a) : er ad' M' a = er ad M a := by
  funext i
  unfold er
  rw [h3]
  have := hO a i
  cases hm : mR M a i with
  | zero => rfl
  | succ n => show some (ad' (n + 1)) = some (ad (n + 1)); rw [h _ (Or.inl (by omega))]
theorem en_grow {g : Nat → ClassId} {ad ad' : Nat → Nat} {M M' : Mm} {a : Nat} (hO : kO M) (h : ∀ k, k ≤ mN M ∨ 4999 ≤ k → ad' k = ad k) (h0 : mK M' a = mK M a) (h1 : mI M' a = mI M a) (h2 : mL M' a = mL M a) (h3 : mR M' a = mR M a) : en g ad' M' a = en g ad M a := by
  unfold en
  rw [h0, h1, h2, eo_grow hO h h1 h2 h3, er_grow hO h h3]
/-- old names are as they were -/
noncomputable def old (M M' : Mm) : Prop := ∀ a, a ≤ mN M → mK M' a = mK M a ∧ mI M' a = mI M a ∧ mL M' a = mL M a ∧ mR M' a = mR M a
theorem wl_grow {g : Nat → ClassId} {ad ad' : Nat → Nat} {M M' : Mm} {k : Nat} (hO : kO M) (h : ∀ k, k ≤ mN M ∨ 4999 ≤ k → ad' k = ad k) (hn : mN M' = mN M + k) (ho : old M M') : wl g ad' M' = wl g ad M ++ (List.range k).map (fun i => (ad' (mN M + 1 + i), en g ad' M' (mN M + 1 + i))) := by
  unfold wl
  rw [hn, List.range_add, List.map_append, List.map_map]
  congr 1
  · refine List.map_congr_left fun i hi => ?_
    have hi := List.mem_range.mp hi
    obtain ⟨z0, z1, z2, z3⟩ := ho (i + 1) (by omega)
    rw [h (i + 1) (Or.inl (by omega)), en_grow hO h z0 z1 z2 z3]
  · refine List.map_congr_left fun i _ => ?_
    show (ad' (mN M + i + 1), en g ad' M' (mN M + i + 1)) = _
    rw [show mN M + i + 1 = mN M + 1 + i by omega]
/-- a step that makes names -/
theorem Wf.alloc {kr : KR} {ls : Ls} {st st' : List Value} {M M' : Mm} {pc' : Nat} (hN : mN M ≤ mN M') (hN4 : mN M' ≤ 4000) (hC : mC M ≤ mC M') (hS : mS M ≤ mS M') (hCb : mC M' ≤ b.1) (hSb : mS M' ≤ b.2) (hkO : kO M → kO M') (hls : ls.all (fun x => rk (mN M) x.2) = true)
    (h : ∀ (p : Program) (e : Env) (R : Room) (s : State) (m : MethodId) (args : Array Value) (below : List Frame) (meth : Method) (c : Code) (H : Heap) (locs : List Loc) (cells slots : Nat) (Q : State → Prop) (D : va_G) (g : Nat → ClassId) (ad : Nat → Nat) (A : Nat → Prop) (la : Array Slot), p.tables.exec = Jvm.exec → c.code = q.2.1 → s.vm.findClass q.1.cls = some m.cls → (∀ w ∈ wB, w.before args s = true) → va_K D vwCl (tz g) s → ao g A s H → kO M → va_P D vwCl (wl g ad M) H → va_D A (wl g ad M) → va_S A s.heap H locs → (∀ a, s.heap.size ≤ a → A a) → cells + (mC M' - mC M) ≤ R.cells → slots + (mS M' - mS M) ≤ R.slots →
      (∀ (ad' : Nat → Nat) (H1 : Heap) (locs1 : List Loc), (∀ k, k ≤ mN M ∨ 4999 ≤ k → ad' k = ad k) → va_P D vwCl (wl g ad' M') H1 → va_D A (wl g ad' M') → va_S A s.heap H1 locs1 → W p l e R s m args below meth c H1 locs1 (cells + (mC M' - mC M)) (slots + (mS M' - mS M)) Q (F0 m pc' la (st'.map (iv ad')))) → W p l e R s m args below meth c H locs cells slots Q (F0 m pc la (st.map (iv ad))))
    (k : Wf l X q d false b pc' ls st' M' kr) : Wf l X q d false b pc ls st M kr := by
  intro p e R s m args below meth c Q D g ad0 A n0 S0 c0 s0 ad H locs la hf g1 g2 g3 g4 g5 g6 g7 g8 hr hl hk
  obtain ⟨r1, r2, r3, r4, r5, r6, r7, r8⟩ := hr
  refine h p e R s m args below meth c H locs (mC M - c0) (mS M - s0) Q D g ad A la hf.1 hf.2.1 hf.2.2.2.2.2.1 hf.2.2.2.2.2.2.2.1 hf.2.2.2.2.2.2.2.2.2.1 (hf.2.2.2.2.2.2.2.2.2.2.2.1.kept r3.2.1) r4 r1 r2 r3 hf.2.2.2.2.2.2.2.2.1 (by omega) (by omega) (fun ad' H1 locs1 ha p1 p2 p3 => ?_)
  have hl' : lv_has la q.2.2.1 (lm ad' ls) := by rw [lm_rk ha hls]; exact hl
  have := k p e R s m args below meth c Q D g ad0 A n0 S0 c0 s0 ad' H1 locs1 la hf g1 g2 g3 g4 (Nat.le_trans g5 hC) (Nat.le_trans g6 hS) hCb hSb ⟨p1, p2, p3, hkO r4, Nat.le_trans r5 hN, hN4, fun n hn => by
    rcases hn with hn | hn
    · rw [ha n (Or.inl (Nat.le_trans hn r5))]; exact r7 n (Or.inl hn)
    · rw [ha n (Or.inr hn)]; exact r7 n (Or.inr hn), fun z => by cases z⟩ hl' hk
  rw [show mC M' - c0 = mC M - c0 + (mC M' - mC M) by omega, show mS M' - s0 = mS M - s0 + (mS M' - mS M) by omega] at this
  exact this
/-- room for n slots, k names; nothing at hand is a new name -/
noncomputable def ro (b : Nat × Nat) (M : Mm) (ls : Ls) (st : List Value) (k n : Nat) : Bool := Nat.ble (mN M + k) 4000 && (ls.all (fun x => rk (mN M) x.2) && (st.all (rk (mN M)) && (Nat.ble (mC M + k) b.1 && Nat.ble (mS M + n) b.2)))
theorem ro_of {b : Nat × Nat} {M : Mm} {ls : Ls} {st : List Value} {k n : Nat} (h : ro b M ls st k n = true) : mN M + k ≤ 4000 ∧ ls.all (fun x => rk (mN M) x.2) = true ∧ st.all (rk (mN M)) = true ∧ mC M + k ≤ b.1 ∧ mS M + n ≤ b.2 := by
  obtain ⟨h1, h⟩ := Bool.and_eq_true_iff.mp h
  obtain ⟨h2, h⟩ := Bool.and_eq_true_iff.mp h
  obtain ⟨h3, h⟩ := Bool.and_eq_true_iff.mp h
  obtain ⟨h4, h⟩ := Bool.and_eq_true_iff.mp h
  exact ⟨Nat.le_of_ble_eq_true h1, h2, h3, Nat.le_of_ble_eq_true h4, Nat.le_of_ble_eq_true h⟩
theorem wA_N {M : Mm} {k : Nat × Nat} {n : Nat} : mN (wA M k n) = mN M + 1 := rfl
theorem wA_C {M : Mm} {k : Nat × Nat} {n : Nat} : mC (wA M k n) = mC M + 1 := rfl
theorem wA_S {M : Mm} {k : Nat × Nat} {n : Nat} : mS (wA M k n) = mS M + n := rfl
theorem wA_old {M : Mm} {k : Nat × Nat} {n : Nat} : old M (wA M k n) := by
  intro a ha
  have hne : ¬ a = mN M + 1 := by omega
  refine ⟨if_neg hne, funext fun j => if_neg hne, funext fun j => if_neg hne, funext fun j => if_neg hne⟩
theorem wA_kO {M : Mm} {k : Nat × Nat} {n : Nat} (h : kO M) : kO (wA M k n) := by
  intro a i
  show (if a = mN M + 1 then 0 else M.2.2.2 a i) ≤ mN M + 1
  split
  · exact Nat.zero_le _
  · exact Nat.le_succ_of_le (h a i)
theorem wA_K {M : Mm} {k : Nat × Nat} {n : Nat} : mK (wA M k n) (mN M + 1) = k := if_pos rfl
theorem wA_I {M : Mm} {k : Nat × Nat} {n : Nat} : mI (wA M k n) (mN M + 1) = fun _ => 0 := funext fun _ => if_pos rfl
theorem wA_L {M : Mm} {k : Nat × Nat} {n : Nat} : mL (wA M k n) (mN M + 1) = fun _ => 0 := funext fun _ => if_pos rfl
theorem wA_R {M : Mm} {k : Nat × Nat} {n : Nat} : mR (wA M k n) (mN M + 1) = fun _ => 0 := funext fun _ => if_pos rfl
/-- the names and one more -/
noncomputable def adn (ad : Nat → Nat) (n a : Nat) : Nat → Nat := fun k => if k = n then a else ad k
theorem adn_o {ad : Nat → Nat} {n a : Nat} (hn : n + 1 ≤ 4000) : ∀ k, k ≤ n ∨ 4999 ≤ k → adn ad (n + 1) a k = ad k := fun k hk => if_neg (by omega)
theorem adn_s {ad : Nat → Nat} {n a : Nat} : adn ad n a n = a := if_pos rfl
/-- one new name: the world of the new memory -/
theorem wl_1 {g : Nat → ClassId} {ad : Nat → Nat} {M : Mm} {k : Nat × Nat} {n a : Nat} {en0 : va_E} (hO : kO M) (hn : mN M + 1 ≤ 4000) (he : en g (adn ad (mN M + 1) a) (wA M k n) (mN M + 1) = en0) : wl g (adn ad (mN M + 1) a) (wA M k n) = wl g ad M ++ [(a, en0)] := by
  rw [wl_grow (k := 1) hO (adn_o hn) rfl wA_old]
  show _ ++ [(adn ad (mN M + 1) a (mN M + 1 + 0), en g (adn ad (mN M + 1) a) (wA M k n) (mN M + 1 + 0))] = _
  rw [Nat.add_zero, adn_s, he]
noncomputable def oNew (b : Nat × Nat) (pc c n : Nat) : OP := fun kn _ ls st M => cond (ro b M ls st 1 n) (kn (pc + 3) ls (.ref (mN M + 1) :: st) (wA M (c, 0) n)) False
/-- a class's fields at the start -/
noncomputable def z0 (c : Nat) : List Value := (tf c).map (fun t => match t with
  | 0 => .int 0
  | 1 => .long 0
  | _ => .null)
theorem eo_0 {ad : Nat → Nat} {M : Mm} {a c : Nat} (h1 : mI M a = fun _ => 0) (h2 : mL M a = fun _ => 0) (h3 : mR M a = fun _ => 0) : eo ad M a (tf c) = z0 c := by
  apply List.ext_getElem?
  intro i
  unfold eo z0
  rw [List.getElem?_map, List.getElem?_map]
  by_cases hl : i < (tf c).length
  · rw [List.getElem?_range hl, List.getElem?_eq_getElem hl]
    simp only [Option.map_some]
    have e : (tf c).getD i 0 = (tf c)[i] := by simp [List.getD, hl]
    rw [e]
    unfold sv
    rw [h1, h2, h3]
    generalize (tf c)[i] = t
    match t with
    | 0 => rfl
    | 1 => rfl
    | t + 2 => rfl
  · rw [List.getElem?_eq_none (by simp; omega), List.getElem?_eq_none (by omega)]
    rfl
theorem ok_new {c idx : Nat} {Cn : String} {T : u_T} {N : Nat} (ty0 : Nat → FieldType) (hty : ∀ k, k < N → parseFieldDescriptor (T k).2.2.1 = some (ty0 k)) (hc : vwCl[c]? = some (Cn, T, N)) (hin : ∀ w ∈ u_ws Cn T N, w ∈ wB) (h8 : c < 8) (hfs : ∀ j, j < N → defaultValue (ty0 j) = vp_V (z0 c) j) (hw : Cond.classLink q.1.cls idx Cn ∈ wB) (hi : Cond.instantiable Cn N ∈ wB) (hini : Cond.initialized Cn ∈ wB) (hd : decode q.2.1 pc = .ok (.new idx, 3)) : OK l X q d false b pc (oNew b pc c N) := by
  intro kn kr ls st M hk h
  obtain ⟨h0, h⟩ := condT h
  obtain ⟨n1, n2, n3, n4, n5⟩ := ro_of h0
  refine Wf.alloc (M' := wA M (c, 0) N) (by rw [wA_N]; omega) (by rw [wA_N]; omega) (by rw [wA_C]; omega) (by rw [wA_S]; omega) (by rw [wA_C]; omega) (by rw [wA_S]; omega) wA_kO n2 (fun p e R s m args below meth c' H locs cells slots Q D g ad A la hx hb hown hts hK hAO hO hP hD hS hA g1 g2 kx => ?_) (hk _ _ _ _ h)
  have eC : mC (wA M (c, 0) N) - mC M = 1 := by rw [wA_C]; omega
  have eS : mS (wA M (c, 0) N) - mS M = N := by rw [wA_S]; omega
  rw [eC] at g1 kx
  rw [eS] at g2 kx
  refine va_new (ci := c) (fs := z0 c) hx hb hts hin ty0 hty hown (hts _ hw) (hts _ hi) (hts _ hini) hK hP hD hS hA hc hfs g1 g2 hd (fun a H1 p1 d1 s1 => ?_)
  have ew := wl_1 (g := g) (ad := ad) (a := a) (k := (c, 0)) (n := N) hO n1 (en0 := .inr (c, z0 c)) (by rw [en_o (c := c) (by rw [wA_K]) h8, eo_0 wA_I wA_L wA_R])
  have := kx (adn ad (mN M + 1) a) H1 locs (adn_o n1) (by rw [ew]; exact p1) (by rw [ew]; exact d1) s1
  rw [List.map_cons, iv_ref (Nat.succ_pos _), adn_s, ivs_rk (adn_o n1) n3] at this
  exact this
noncomputable def oNa (b : Nat × Nat) (pc k n : Nat) (v0 : Int32) : OP := fun kn _ ls st M => match st with
  | .int v :: st => cond (ro b M ls st 1 n) (v = v0 ∧ kn (pc + 2) ls (.ref (mN M + 1) :: st) (wA M (k, n) n)) False
  | _ => False
theorem ok_na {at0 : ArrayType} {k n : Nat} {v0 : Int32} {ty : FieldType} {a0 : vp_A} (hty : newarray.typeOf at0 = ty) (hk3 : k = 8 ∧ ty = .byte ∧ a0 = (n, .inl (fun _ => 0)) ∨ k = 9 ∧ ty = .int ∧ a0 = (n, .inl (fun _ => 0)) ∨ k = 10 ∧ ty = .long ∧ a0 = (n, .inr (.inl (fun _ => 0)))) (hv : ¬ v0 < 0 ∧ v0.toNatClampNeg = n ∧ n ≤ 1000) (hw : Cond.arrayClass (newarray.typeOf at0) ∈ wB) (hd : decode q.2.1 pc = .ok (.newarray at0, 2)) : OK l X q d false b pc (oNa b pc k n v0) := by
  intro kn kr ls st M hk h
  simp only [oNa] at h
  split at h
  · rename_i v st
    obtain ⟨h0, ev, hh⟩ := condT h
    subst ev
    obtain ⟨n1, n2, n3, n4, n5⟩ := ro_of h0
    refine Wf.alloc (M' := wA M (k, n) n) (by rw [wA_N]; omega) (by rw [wA_N]; omega) (by rw [wA_C]; omega) (by rw [wA_S]; omega) (by rw [wA_C]; omega) (by rw [wA_S]; omega) wA_kO n2 (fun p e R s m args below meth c' H locs cells slots Q D g ad A la hx hb hown hts hK hAO hO hP hD hS hA g1 g2 kx => ?_) (hk _ _ _ _ hh)
    have eC : mC (wA M (k, n) n) - mC M = 1 := by rw [wA_C]; omega
    have eS : mS (wA M (k, n) n) - mS M = n := by rw [wA_S]; omega
    rw [eC] at g1 kx
    rw [eS] at g2 kx
    have hcb : componentBytes ty ≤ 8 := by rcases hk3 with ⟨-, rfl, -⟩ | ⟨-, rfl, -⟩ | ⟨-, rfl, -⟩ <;> decide
    have hby : n * componentBytes ty ≤ 536870912 := Nat.le_trans (Nat.mul_le_mul hv.2.2 hcb) (by decide)
    refine va_newa (a0 := a0) hx hb (hts _ hw) hty hK hP hD hS hA (fun cA => ?_) hv.1 hv.2.1 hby g1 g2 hd (fun a cA H1 k1 p1 d1 s1 => ?_)
    · rcases hk3 with ⟨-, rfl, rfl⟩ | ⟨-, rfl, rfl⟩ | ⟨-, rfl, rfl⟩
      · exact vp_cell_i cA n _
      · exact vp_cell_i cA n _
      · exact vp_cell_l cA n _
    · have ecA : cA = g k := by
        have z := (k1.2 5 (cA, ty) rfl).2
        rcases hk3 with ⟨rfl, rfl, -⟩ | ⟨rfl, rfl, -⟩ | ⟨rfl, rfl, -⟩
        · exact Option.some.inj (z.symm.trans (hK.2 0 _ rfl).2)
        · exact Option.some.inj (z.symm.trans (hK.2 1 _ rfl).2)
        · exact Option.some.inj (z.symm.trans (hK.2 2 _ rfl).2)
      have ew := wl_1 (g := g) (ad := ad) (a := a) (k := (k, n)) (n := n) hO n1 (en0 := .inl (cA, a0)) (by
        rw [ecA]
        rcases hk3 with ⟨rfl, rfl, rfl⟩ | ⟨rfl, rfl, rfl⟩ | ⟨rfl, rfl, rfl⟩
        · rw [en_b (by rw [wA_K]), wA_K, wA_I]
        · rw [en_i (by rw [wA_K]), wA_K, wA_I]
        · rw [en_j (by rw [wA_K]), wA_K, wA_L])
      have := kx (adn ad (mN M + 1) a) H1 locs (adn_o n1) (by rw [ew]; exact p1) (by rw [ew]; exact d1) s1
      rw [List.map_cons, iv_ref (Nat.succ_pos _), adn_s, ivs_rk (adn_o n1) n3] at this
      exact this
  · exact h.elim
noncomputable def oNq (b : Nat × Nat) (pc n : Nat) (v0 : Int32) : OP := fun kn _ ls st M => match st with
  | .int v :: st => cond (ro b M ls st 1 n) (v = v0 ∧ kn (pc + 3) ls (.ref (mN M + 1) :: st) (wA M (11, n) n)) False
  | _ => False
theorem ok_nq {idx n : Nat} {v0 : Int32} (hv : ¬ v0 < 0 ∧ v0.toNatClampNeg = n ∧ n ≤ 1000) (hw : Cond.classLink q.1.cls idx RX2 ∈ wB) (hd : decode q.2.1 pc = .ok (.anewarray idx, 3)) : OK l X q d false b pc (oNq b pc n v0) := by
  intro kn kr ls st M hk h
  simp only [oNq] at h
  split at h
  · rename_i v st
    obtain ⟨h0, ev, hh⟩ := condT h
    subst ev
    obtain ⟨n1, n2, n3, n4, n5⟩ := ro_of h0
    refine Wf.alloc (M' := wA M (11, n) n) (by rw [wA_N]; omega) (by rw [wA_N]; omega) (by rw [wA_C]; omega) (by rw [wA_S]; omega) (by rw [wA_C]; omega) (by rw [wA_S]; omega) wA_kO n2 (fun p e R s m args below meth c' H locs cells slots Q D g ad A la hx hb hown hts hK hAO hO hP hD hS hA g1 g2 kx => ?_) (hk _ _ _ _ hh)
    have eC : mC (wA M (11, n) n) - mC M = 1 := by rw [wA_C]; omega
    have eS : mS (wA M (11, n) n) - mS M = n := by rw [wA_S]; omega
    rw [eC] at g1 kx
    rw [eS] at g2 kx
    refine va_newq (C := RX2) hx hb hown (hts _ hw) hAO.1 hK hP hD hS hA hv.1 hv.2.1 (by omega) g1 g2 hd (fun a cA H1 k1 p1 d1 s1 => ?_)
    have ecA : cA = g 11 := by
      obtain ⟨kA, comp, f2, f3, f4, f1⟩ := (k1.2 5 (cA, .object RX2) rfl).2
      obtain ⟨kA', comp', f2', f3', f4', f1'⟩ := (hK.2 3 _ rfl).2
      exact Option.some.inj (f1.symm.trans f1')
    have ew := wl_1 (g := g) (ad := ad) (a := a) (k := (11, n)) (n := n) hO n1 (en0 := .inl (cA, n, .inr (.inr (.inr (.inr (fun _ => none)))))) (by
      have eer : er (adn ad (mN M + 1) a) (wA M (11, n) n) (mN M + 1) = fun _ => none := by
        funext i
        unfold er
        rw [wA_R]
      rw [ecA, en_q (c := 11) (by rw [wA_K]) (by decide), wA_K, eer])
    have := kx (adn ad (mN M + 1) a) H1 locs (adn_o n1) (by rw [ew]; exact p1) (by rw [ew]; exact d1) s1
    rw [List.map_cons, iv_ref (Nat.succ_pos _), adn_s, ivs_rk (adn_o n1) n3] at this
    exact this
  · exact h.elim
end ALLOC
end
section
section CTOR
variable {l : Launch} {X : Nat × (Nat → Int32)} {q : Md} {d : Nat} {b : Nat × Nat} {pc : Nat}
/-- a call that may make names -/
theorem Wf.callA {kr kr' : KR} {ls : Ls} {st rest : List Value} {M : Mm} {mc ms : Nat} (hls : ls.all (fun x => rk (mN M) x.2) = true) (hrs : rest.all (rk (mN M)) = true) (hC : mC M + mc ≤ b.1) (hS : mS M + ms ≤ b.2) (hCS : ∀ r M', kr' r M' → mC M' = mC M + mc ∧ mS M' = mS M + ms) (hk : ∀ r M', kr' r M' → Wf l X q (d + 1) false b (pc + 3) ls (r.toList ++ rest) M' kr)
    (h : ∀ (p : Program) (e : Env) (R : Room) (s : State) (m : MethodId) (args : Array Value) (below : List Frame) (meth : Method) (c : Code) (H : Heap) (locs : List Loc) (cells slots : Nat) (D : va_G) (g : Nat → ClassId) (ad : Nat → Nat) (A : Nat → Prop) (la : Array Slot), p.tables.exec = Jvm.exec → c.code = q.2.1 → c.maxLocals = q.2.2.1 → la.size = q.2.2.1 → s.vm.findClass q.1.cls = some m.cls → (∀ w ∈ wB, w.before args s = true) → d + 1 ≤ R.frames → 64 * (d + 1) ≤ R.locals → cells + mc ≤ R.cells ∧ slots + ms ≤ R.slots → va_K D vwCl (tz g) s → (∀ x ∈ wN, va_Nw (.methodLinkNest x.1 x.2.1 x.2.2 RX6) s) → va_P D vwCl (wl g ad M) H → (∀ av, FrameBlind (pz D g ad X A av M) ∧ ∀ U : State, U.heap = H → s.WarmedH U.vm → pz D g ad X A av M (av.map (iv ad)).toArray U) →
      ∃ a0 : Array Value, va_Run p l e R s m args below meth c H locs cells slots mc ms (F0 m pc la (st.map (iv ad))) (rest.map (iv ad)) (qz D g ad A false M kr' a0) A) :
    Wf l X q (d + 1) false b pc ls st M kr := by
  intro p e R s m args below meth c Q D g ad0 A n0 S0 c0 s0 ad H locs la hf g1 g2 g3 g4 g5 g6 g7 g8 hr hl hk2
  obtain ⟨r1, r2, r3, r4, r5, r6, r7, r8⟩ := hr
  have hs := sx_kept (sx_ad (ad' := ad) (fun n hn => r7 n (Or.inr hn)) hf.2.2.2.2.2.2.2.2.2) r3.1 r3.2.1
  have hA := hf.2.2.2.2.2.2.2.2.1
  obtain ⟨a0, hrun⟩ := h p e R s m args below meth c H locs (mC M - c0) (mS M - s0) D g ad A la hf.1 hf.2.1 hf.2.2.1 hl.1 hf.2.2.2.2.2.1 hf.2.2.2.2.2.2.2.1 g1 g2 (by omega) hs.1 hs.2.1 r1 (fun av => pz_pre r1 r2 (fun a ha => hA a (Nat.le_trans r3.1 ha)) r4 r6 hs)
  intro T hT Xs
  obtain ⟨v, st₀, t, T', L, h0, X', hL, e1, e2, hq, stp⟩ := hrun T hT Xs
  obtain ⟨r, M', ad', o1, o2, o3, o4, o5, o6, o7, o8, o9, o10⟩ := hq
  have ev : v = r.map (iv ad') := by cases o1; rfl
  subst ev
  obtain ⟨w1, w2⟩ := hCS r M' o2
  have hS' : va_S A s.heap t.heap (locs ++ L) := by
    obtain ⟨z1, z2⟩ := o10
    rw [h0] at z1 z2
    exact ⟨Nat.le_trans r3.1 z1, fun a ha hA' => by rw [z2 a (Nat.lt_of_lt_of_le ha r3.1) hA']; exact r3.2.1 a ha hA', fun x hx => by
      rcases List.mem_append.mp hx with z | z
      · exact r3.2.2 x z
      · exact hL x z⟩
  have hl' : lv_has la q.2.2.1 (lm ad' ls) := by rw [lm_rk o4 hls]; exact hl
  have hw := hk r M' o2 p e R s m args below meth c Q D g ad0 A n0 S0 c0 s0 ad' t.heap (locs ++ L) la hf g1 g2 g3 g4 (by omega) (by omega) (by omega) (by omega) ⟨o8, o9, hS', o7, by omega, o6, fun n hn => by
    rcases hn with hn | hn
    · rw [o4 n (Or.inl (Nat.le_trans hn r5))]; exact r7 n (Or.inl hn)
    · rw [o4 n (Or.inr hn)]; exact r7 n (Or.inr hn), fun z => by cases z⟩ hl' hk2
  rw [w1, w2, show mC M + mc - c0 = mC M - c0 + mc by omega, show mS M + ms - s0 = mS M - s0 + ms by omega] at hw
  obtain ⟨t2, a1, b1⟩ := hw T' e1 X'
  refine ⟨t2, stp t2 ?_, b1⟩
  have es : (r.toList ++ rest).map (iv ad') = (r.map (iv ad')).toList ++ rest.map (iv ad) := by rw [List.map_append, ivs_rk o4 hrs]; cases r <;> simp
  rw [es] at a1
  exact a1
/-- a constructor's words -/
noncomputable def cI (q' : Md) : Prop := cW q' 0 ∧ q'.1.name = "<init>" ∧ Cond.instanceMethod q'.1 ∈ wB ∧ q'.2.2.2 = none
noncomputable def ri (b : Nat × Nat) (M : Mm) (ls : Ls) (rest : List Value) (a c mc ms : Nat) : Bool := (kk M a c && Nat.ble (cs rest) 8) && (ls.all (fun x => rk (mN M) x.2) && (rest.all (rk (mN M)) && (Nat.ble (mC M + mc) b.1 && Nat.ble (mS M + ms) b.2)))
theorem ri_of {b : Nat × Nat} {M : Mm} {ls : Ls} {rest : List Value} {a c mc ms : Nat} (h : ri b M ls rest a c mc ms = true) : kk M a c = true ∧ cs rest ≤ 8 ∧ ls.all (fun x => rk (mN M) x.2) = true ∧ rest.all (rk (mN M)) = true ∧ mC M + mc ≤ b.1 ∧ mS M + ms ≤ b.2 := by
  obtain ⟨h1, h⟩ := Bool.and_eq_true_iff.mp h
  obtain ⟨h0, h1⟩ := Bool.and_eq_true_iff.mp h1
  obtain ⟨h2, h⟩ := Bool.and_eq_true_iff.mp h
  obtain ⟨h3, h⟩ := Bool.and_eq_true_iff.mp h
  obtain ⟨h4, h⟩ := Bool.and_eq_true_iff.mp h
  exact ⟨h0, Nat.le_of_ble_eq_true h1, h2, h3, Nat.le_of_ble_eq_true h4, Nat.le_of_ble_eq_true h⟩
/-- a constructor without arguments, by a nest mate's link or an open one -/
noncomputable def oCi (l : Launch) (X : Nat × (Nat → Int32)) (d : Nat) (b : Nat × Nat) (pc : Nat) (q' : Md) (c mc ms : Nat) : OP := fun kn _ ls st M => match st with
  | .ref a :: rest => cond (ri b M ls rest a c mc ms) (Ev l X q' d false mc ms [.ref a] M (fun r M' => (mC M' = mC M + mc ∧ mS M' = mS M + ms) ∧ kn (pc + 3) ls (r.toList ++ rest) M')) False
  | _ => False
set_option maxHeartbeats 2000000 in
theorem ok_ciN {q' : Md} {c mc ms idx : Nat} (hW : cI q') (hw : (q.1.cls, idx, q'.1) ∈ wN) (hd : decode q.2.1 pc = .ok (.invokespecial idx, 3)) : OK l X q (d + 1) false b pc (oCi l X d b pc q' c mc ms) := by
  intro kn kr ls st M hk h
  simp only [oCi] at h
  split at h
  · rename_i a rest
    obtain ⟨h0, h⟩ := condT h
    obtain ⟨i0, i1, i2, i3, i4, i5⟩ := ri_of h0
    obtain ⟨a0, a1, a2⟩ := kk_of i0
    refine Wf.callA (rest := rest) (kr' := fun r M' => (mC M' = mC M + mc ∧ mS M' = mS M + ms) ∧ kn (pc + 3) ls (r.toList ++ rest) M') i2 i3 i4 i5 (fun r M' z => z.1) (fun r M' z => hk _ _ _ _ z.2) (fun p e R s m args below meth c' H locs cells slots D g ad A la hx hb hml hla hown hts g1 g2 g3 hK hN hP hp => ?_)
    have hR : (rz d mc ms).frames + 1 ≤ R.frames ∧ 8 + (q'.2.2.1 + 11) + (rz d mc ms).locals ≤ R.locals := ⟨g1, by have := hW.1.2.2.2; show 8 + (q'.2.2.1 + 11) + 64 * d ≤ _; omega⟩
    refine ⟨_, va_runIN (host := RX6) (bytes := q'.2.1) (maxL := q'.2.2.1) (As := []) (n := 0) (rest := rest.map (iv ad)) (b := ad a) ⟨hx, hb, hml, hown, hts⟩ (h D g ad A) ⟨va_cnB 0 hts (wB_good hW.1.1) (by rw [← hW.2.2.2]; rfl) rfl rfl (hN _ hw) (hts _ hW.1.2.1) hW.1.2.2.1 hR, hW.2.1, hts _ hW.2.2.1⟩ ⟨(hp _).1, fun U hU hW' => ?_⟩ rfl rfl hla ?_ (lv_room (by rw [cs_of]; exact i1)) hd g3⟩
    · have := (hp [.ref a]).2 U hU hW'
      rw [List.map_cons, iv_ref a0] at this
      exact this
    · show (Value.ref a :: rest).map (iv ad) = _
      rw [List.map_cons, iv_ref a0]
      rfl
  · exact h.elim
theorem ok_ci {q' : Md} {c mc ms idx : Nat} (hW : cI q') (hw : Cond.methodLink q.1.cls idx q'.1 ∈ wB) (hd : decode q.2.1 pc = .ok (.invokespecial idx, 3)) : OK l X q (d + 1) false b pc (oCi l X d b pc q' c mc ms) := by
  intro kn kr ls st M hk h
  simp only [oCi] at h
  split at h
  · rename_i a rest
    obtain ⟨h0, h⟩ := condT h
    obtain ⟨i0, i1, i2, i3, i4, i5⟩ := ri_of h0
    obtain ⟨a0, a1, a2⟩ := kk_of i0
    refine Wf.callA (rest := rest) (kr' := fun r M' => (mC M' = mC M + mc ∧ mS M' = mS M + ms) ∧ kn (pc + 3) ls (r.toList ++ rest) M') i2 i3 i4 i5 (fun r M' z => z.1) (fun r M' z => hk _ _ _ _ z.2) (fun p e R s m args below meth c' H locs cells slots D g ad A la hx hb hml hla hown hts g1 g2 g3 hK hN hP hp => ?_)
    have hR : (rz d mc ms).frames + 1 ≤ R.frames ∧ 8 + (q'.2.2.1 + 11) + (rz d mc ms).locals ≤ R.locals := ⟨g1, by have := hW.1.2.2.2; show 8 + (q'.2.2.1 + 11) + 64 * d ≤ _; omega⟩
    refine ⟨_, va_runI (bytes := q'.2.1) (maxL := q'.2.2.1) (As := []) (n := 0) (rest := rest.map (iv ad)) (b := ad a) ⟨hx, hb, hml, hown, hts⟩ (h D g ad A) ⟨callB_of 0 hts (wB_good hW.1.1) (by rw [← hW.2.2.2]; rfl) rfl rfl (hts _ hW.1.2.1) (hts _ hw) hW.1.2.2.1 hR, hW.2.1, hts _ hW.2.2.1⟩ ⟨(hp _).1, fun U hU hW' => ?_⟩ rfl rfl hla ?_ (lv_room (by rw [cs_of]; exact i1)) hd g3⟩
    · have := (hp [.ref a]).2 U hU hW'
      rw [List.map_cons, iv_ref a0] at this
      exact this
    · show (Value.ref a :: rest).map (iv ad) = _
      rw [List.map_cons, iv_ref a0]
      rfl
  · exact h.elim
/-- Object's constructor -/
noncomputable def oOi (pc : Nat) : OP := fun kn _ ls st M => match st with
  | .ref a :: rest => cond (Nat.blt 0 a && Nat.ble (cs rest) 8) (kn (pc + 3) ls rest M) False
  | _ => False
theorem ok_oi {na : Bool} {idx : Nat} (hi : Cond.instanceMethod Lib.objectInit ∈ wB) (hc : Cond.code Lib.objectInit ⟨#[0xb1]⟩ 1 none ∈ wB) (hw : Cond.methodLink q.1.cls idx Lib.objectInit ∈ wB) (hd : decode q.2.1 pc = .ok (.invokespecial idx, 3)) : OK l X q (d + 1) na b pc (oOi pc) := by
  intro kn kr ls st M hk h
  simp only [oOi] at h
  split at h
  · rename_i a rest
    obtain ⟨h0, h⟩ := condT h
    obtain ⟨h0, h1⟩ := Bool.and_eq_true_iff.mp h0
    have a0 : 0 < a := Nat.le_of_ble_eq_true h0
    have h1 := Nat.le_of_ble_eq_true h1
    refine Wf.mem rfl id (fun p e R s m args below meth c' H locs cells slots Q D g ad A la hx hb hown hts hK hnm hml g1 g2 hP hD hS kx => ?_) (hk _ _ _ _ h)
    rw [List.map_cons, iv_ref a0]
    have hr : 2 * (F0 m pc la (Value.ref (ad a) :: rest.map (iv ad))).monitorRoom + ((rest.map (iv ad)).map fun v => v.category).sum ≤ 8 := lv_room (by rw [cs_of]; exact h1)
    exact W.objInit hx hb hown (hts _ hw) (hts _ hi) (hts _ hc) rfl hml.symm rfl hd (by omega) (by omega) (kx H locs hP hD hS)
  · exact h.elim
end CTOR
end
section
/-! an array of 6 rows of 5 ints (multianewarray) -/
section MULTI
theorem nw_array {E : CtlPost} {e : Env} {d : Bool} {acts : List Action} {s : State} {cA comp : ClassId} {k : Class} {ty : FieldType} {n : Nat} {v : Value} (hk : s.vm.classes[cA]? = some k) (hkind : k.kind = .array comp ty) (hlim : n ≤ e.platform.arrayLengthLimit) (hby : n * componentBytes ty ≤ e.platform.maxHeapBytes) (hf : fits ty v = true) (hdf : v.isDefault = true) (h1 : s.heap.size < e.platform.maxCells) (h2 : s.slotsUsed + n ≤ e.platform.maxSlots)
    {Q : Addr → Pre} (hq : Q s.heap.size d acts (s.pushCell { cls := cA, slots := Array.replicate n v, vm := .none })) : wp (Jvm.newArray cA n v) Q E e d acts s := by
  have g1 : ¬ n > e.platform.arrayLengthLimit := Nat.not_lt.mpr hlim
  have g2 : ¬ n * componentBytes ty > e.platform.maxHeapBytes := Nat.not_lt.mpr hby
  have g3 : allocActs (Array.replicate n v) s.heap.size acts = acts := by
    unfold allocActs
    rw [if_pos]
    rw [Array.all_replicate]
    split
    · rfl
    · exact hdf
  have g4 : ∀ i w, (Array.replicate n v)[i]? = some w → s.fitsSlot cA .none i w = true := fun i w hw => by
    rw [Array.getElem?_replicate] at hw
    split at hw
    · cases hw
      simp [State.fitsSlot, State.slotType?, hk, hkind, hf]
    · cases hw
  simp only [Jvm.newArray, Jvm.arrayFits, wp_bind', W.ask, W.ite, g1, if_false, wp_pure', W.theClass, hk, hkind, g2, W.alloc, W.stop, Option.some.injEq, exists_eq_left', Array.size_replicate, g3]
  split
  · omega
  · exact ⟨h1, h2, g4, hq⟩
/-- the outer row, i places of it filled -/
noncomputable def mo (cA : ClassId) (h i : Nat) : Cell := arrV cA 6 (fun j => if j < i then .ref (h + 1 + j) else .null)
noncomputable def mi (comp : ClassId) : Cell := arrV comp 5 (fun _ => .int 0)
theorem mo_0 (cA : ClassId) (h : Nat) : ({ cls := cA, slots := Array.replicate 6 .null, vm := .none } : Cell) = mo cA h 0 := arrV_new cA 6 .null
theorem mi_0 (comp : ClassId) : ({ cls := comp, slots := Array.replicate 5 (.int 0), vm := .none } : Cell) = mi comp := arrV_new comp 5 (.int 0)
theorem mo_s (cA : ClassId) (h i : Nat) : (mo cA h i).setSlot i (.ref (h + 1 + i)) = mo cA h (i + 1) := by
  unfold mo
  rw [arrV_store]
  congr 1
  funext j
  unfold updV
  by_cases hj : j = i
  · subst hj; simp
  · by_cases hl : j < i
    · simp [hj, hl, Nat.lt_succ_of_lt hl]
    · simp [hj, hl, show ¬ j < i + 1 by omega]
end MULTI
section MULTIW
variable {p : Program} {l : Launch} {e : Env} {R : Room} {s : State} {m : MethodId} {args : Array Value} {below : List Frame} {meth : Method} {c : Code} {locs : List Loc} {cells slots : Nat} {Q : State → Prop}
/-- behind i rows -/
noncomputable def mJ (p : Program) (l : Launch) (e : Env) (R : Room) (s : State) (m : MethodId) (args : Array Value) (below : List Frame) (meth : Method) (c : Code) (locs : List Loc) (cells slots : Nat) (H : Heap) (vm1 : Vm) (cA comp : ClassId) (i : Nat) (U : State) : Prop :=
  Stand p l e R s m args below meth c U locs (cells + 1 + i) (slots + 6 + 5 * i) ∧ U.vm = vm1 ∧ U.heap.size = H.size + 1 + i ∧ (∀ a, a < H.size → U.heap[a]? = H[a]?) ∧ U.heap[H.size]? = some (mo cA H.size i) ∧ ∀ j, j < i → U.heap[H.size + 1 + j]? = some (mi comp)
theorem mJ_0 {H : Heap} {U : State} {cA comp : ClassId} (X : Stand p l e R s m args below meth c U locs cells slots) (hU : U.heap = H) : mJ p l e R s m args below meth c locs cells slots H U.vm cA comp 0 (U.pushCell (mo cA H.size 0)) := by
  subst hU
  have h := X.pushed (mo cA U.heap.size 0)
  rw [show (mo cA U.heap.size 0).slots.size = 6 from arrV_size _ _ _] at h
  refine ⟨h, rfl, ?_, fun a ha => State.heap_pushCell_of_lt _ _ ha, State.heap_pushCell_size _ _, fun j hj => absurd hj (Nat.not_lt_zero _)⟩
  show (U.heap.push _).size = _
  rw [Array.size_push]
theorem mJ_s {H : Heap} {U : State} {vm1 : Vm} {cA comp : ClassId} {i : Nat} (hn : s.heap.size ≤ H.size) (h : mJ p l e R s m args below meth c locs cells slots H vm1 cA comp i U) : mJ p l e R s m args below meth c locs cells slots H vm1 cA comp (i + 1) ((U.pushCell (mi comp)).setCell H.size ((mo cA H.size i).setSlot i (.ref U.heap.size))) := by
  obtain ⟨X, h1, h2, h3, h4, h5⟩ := h
  have hlt : H.size < U.heap.size := by omega
  have hc : (U.pushCell (mi comp)).heap[H.size]? = some (mo cA H.size i) := by rw [State.heap_pushCell_of_lt (h := hlt)]; exact h4
  have hX := ((X.pushed (mi comp)).stored hc i (.ref U.heap.size)).forget (fun y hy => by rw [List.mem_singleton.mp hy]; exact hn)
  rw [show (mi comp).slots.size = 5 from arrV_size _ _ _] at hX
  have hsz : ((U.pushCell (mi comp)).setCell H.size ((mo cA H.size i).setSlot i (.ref U.heap.size))).heap.size = H.size + 1 + (i + 1) := by
    simp [State.setCell, State.pushCell, h2]
    omega
  refine ⟨by rw [show cells + 1 + (i + 1) = cells + 1 + i + 1 by omega, show slots + 6 + 5 * (i + 1) = slots + 6 + 5 * i + 5 by omega]; exact hX, h1, hsz, fun a ha => ?_, ?_, fun j hj => ?_⟩
  · rw [State.heap_setCell_other (show H.size ≠ a by omega), State.heap_pushCell_of_lt (h := show a < U.heap.size by omega)]
    exact h3 a ha
  · rw [State.heap_setCell_self hc, h2, ← mo_s]
  · rw [State.heap_setCell_other (show H.size ≠ H.size + 1 + j by omega)]
    by_cases hji : j < i
    · rw [State.heap_pushCell_of_lt (h := show H.size + 1 + j < U.heap.size by omega)]
      exact h5 j hji
    · rw [show H.size + 1 + j = U.heap.size by omega]
      exact State.heap_pushCell_size _ _
/-- the states behind the rows -/
noncomputable def mU (cA comp : ClassId) (h : Nat) (U : State) : Nat → State
  | 0 => U.pushCell (mo cA h 0)
  | i + 1 => ((mU cA comp h U i).pushCell (mi comp)).setCell h ((mo cA h i).setSlot i (.ref (mU cA comp h U i).heap.size))
theorem mU_top (cA comp : ClassId) (h : Nat) (U : State) (f : JFrame) : ∀ i, mU cA comp h (U.setTop f) i = (mU cA comp h U i).setTop f
  | 0 => by simp only [mU, State.pushCell_setTop]
  | i + 1 => by simp only [mU, mU_top cA comp h U f i, State.heap_setTop, State.pushCell_setTop, State.setCell_setTop]
theorem mU_J {H : Heap} {U : State} {vm1 : Vm} {cA comp : ClassId} (hn : s.heap.size ≤ H.size) (h0 : mJ p l e R s m args below meth c locs cells slots H vm1 cA comp 0 (mU cA comp H.size U 0)) : ∀ i, mJ p l e R s m args below meth c locs cells slots H vm1 cA comp i (mU cA comp H.size U i)
  | 0 => h0
  | i + 1 => mJ_s hn (mU_J hn h0 i)
theorem wp_make65 {E : CtlPost} {d : Bool} {acts : List Action} {S : State} {cA comp c3 : ClassId} {k kc : Class} (hk : S.vm.classes[cA]? = some k) (hkind : k.kind = .array comp (.array .int)) (hkc : S.vm.classes[comp]? = some kc) (hkindc : kc.kind = .array c3 .int) (hlim : 100 ≤ e.platform.arrayLengthLimit) (hby : 1000 ≤ e.platform.maxHeapBytes)
    (hrow : ∀ i, (mU cA comp S.heap.size S i).heap.size = S.heap.size + 1 + i ∧ (mU cA comp S.heap.size S i).vm = S.vm ∧ (mU cA comp S.heap.size S i).heap[S.heap.size]? = some (mo cA S.heap.size i)) (r1 : S.heap.size < e.platform.maxCells) (r2 : S.slotsUsed + 6 ≤ e.platform.maxSlots) (r3 : ∀ i, i < 6 → (mU cA comp S.heap.size S i).heap.size < e.platform.maxCells ∧ (mU cA comp S.heap.size S i).slotsUsed + 5 ≤ e.platform.maxSlots)
    {Q : Addr → Pre} (hq : ∀ d' acts', Q S.heap.size d' acts' (mU cA comp S.heap.size S 6)) : wp (multianewarray.make cA [6, 5]) Q E e d acts S := by
  have n6 : ¬ (6 : Int32) < 0 := by decide
  have n5 : ¬ (5 : Int32) < 0 := by decide
  have t6 : (6 : Int32).toNatClampNeg = 6 := by decide
  have t5 : (5 : Int32).toNatClampNeg = 5 := by decide
  have z6 : ((6 : Int32) == 0) = false := by decide
  rw [multianewarray.make]
  simp only [wp_bind', W.ite, n6, if_false, wp_pure', W.theClass, hk, hkind, Option.some.injEq, exists_eq_left', t6, z6]
  refine nw_array hk hkind (by omega) (by show 6 * 4 ≤ _; omega) rfl rfl r1 r2 ?_
  rw [mo_0 cA S.heap.size]
  simp only [Bool.false_eq_true, if_false, wp_pure', wp_bind']
  rw [Std.Legacy.Range.forIn_eq_forIn_range']
  show wp (forIn (List.range' 0 6 1) PUnit.unit _) _ E e d acts _
  refine wp_forIn_inv (fun rest s' => ∃ i, rest = List.range' i (6 - i) ∧ i ≤ 6 ∧ s' = mU cA comp S.heap.size S i) _ _ ⟨0, rfl, by decide, rfl⟩ ?_ ?_
  · rintro x rest s' d' acts' Q' ⟨i, h1, h2, rfl⟩ hnext
    have hi : i < 6 := by
      rcases Nat.lt_or_ge i 6 with z | z
      · exact z
      · rw [show 6 - i = 0 by omega] at h1; cases h1
    rw [show 6 - i = (6 - (i + 1)) + 1 by omega, List.range'_succ] at h1
    obtain ⟨rfl, rfl⟩ := List.cons.inj h1
    obtain ⟨f1, f2, f3⟩ := hrow x
    obtain ⟨g1, g2⟩ := r3 x hi
    have hkc' : (mU cA comp S.heap.size S x).vm.classes[comp]? = some kc := by rw [f2]; exact hkc
    have hk' : (mU cA comp S.heap.size S x).vm.classes[cA]? = some k := by rw [f2]; exact hk
    simp only [wp_bind']
    rw [multianewarray.make]
    simp only [wp_bind', W.ite, n5, if_false, wp_pure', W.theClass, hkc', hkindc, Option.some.injEq, exists_eq_left', t5]
    refine nw_array hkc' hkindc (by omega) (by show 5 * 4 ≤ _; omega) rfl rfl g1 g2 ?_
    rw [show defaultValue .int = .int 0 from rfl, mi_0]
    have hlt : S.heap.size < (mU cA comp S.heap.size S x).heap.size := by omega
    simp only [wp_bind', W.writeLoc, wp_pure']
    refine ⟨mo cA S.heap.size x, by rw [State.heap_pushCell_of_lt (h := hlt)]; exact f3, fun z => (by cases z), by rw [show (mo cA S.heap.size x).slots.size = 6 from arrV_size _ _ _]; exact hi, ?_, hnext _ _ _ ⟨x + 1, rfl, by omega, rfl⟩⟩
    show State.fitsSlot _ cA .none x _ = true
    simp [State.fitsSlot, State.slotType?, hk', hkind]
    rfl
  · rintro s' d' acts' ⟨i, h1, h2, rfl⟩
    have hi : i = 6 := by
      rcases Nat.lt_or_ge i 6 with z | z
      · rw [show 6 - i = (6 - (i + 1)) + 1 by omega, List.range'_succ] at h1; cases h1
      · omega
    subst hi
    simp only [wp_pure']
    exact hq _ _
theorem W_multi {H : Heap} {cc : ByteArray} (hexec : p.tables.exec = Jvm.exec) (hb : c.code = cc) {own : String} {idx : Nat} (hown : s.vm.findClass own = some m.cls) (hcl : (Cond.classLink own idx "[[I").before args s = true) {cA comp c3 : ClassId} {kA kC : Class} (hA : s.vm.findClass "[[I" = some cA) (hkA : s.vm.classes[cA]? = some kA) (hkindA : kA.kind = .array comp (.array .int)) (hkC : s.vm.classes[comp]? = some kC) (hkindC : kC.kind = .array c3 .int) {pc : Nat} {ls : Array Slot} {rest : List Value} (hdg : decode cc pc = .ok (.multianewarray idx 2, 4)) (hcells : cells + 7 ≤ R.cells) (hslots : slots + 36 ≤ R.slots) (hn : s.heap.size ≤ H.size)
    (kk : ∀ H1 : Heap, H1.size = H.size + 7 → (∀ a, a < H.size → H1[a]? = H[a]?) → H1[H.size]? = some (mo cA H.size 6) → (∀ j, j < 6 → H1[H.size + 1 + j]? = some (mi comp)) → W p l e R s m args below meth c H1 locs (cells + 7) (slots + 36) Q (F0 m (pc + 4) ls (.ref H.size :: rest))) : W p l e R s m args below meth c H locs cells slots Q (F0 m pc ls (.int 5 :: .int 6 :: rest)) := by
  intro T hT X
  subst hb
  have hpl : e.platform.magicAccessors = ({} : Platform).magicAccessors := by rw [X.admits.platform]
  obtain ⟨c0, hfc0, hlk⟩ := Cond.classLink_spec hown hcl e.platform hpl
  cases hA.symm.trans hfc0
  obtain ⟨hg₁, hwarm₁, -⟩ := State.classEntry (e := e) X.warmed hlk
  generalize T.vm.noted m.cls idx (.cls cA) = vm₁ at hg₁ hwarm₁
  obtain ⟨kA₁, hkA₁, heA⟩ := hwarm₁.alike.2.2 _ _ hkA
  obtain ⟨kC₁, hkC₁, heC⟩ := hwarm₁.alike.2.2 _ _ hkC
  have hkindA₁ : kA₁.kind = .array comp (.array .int) := by rw [heA]; exact hkindA
  have hkindC₁ : kC₁.kind = .array c3 .int := by rw [heC]; exact hkindC
  have X₁ := X.noted hwarm₁
  have J0 : mJ p l e R s m args below meth c locs cells slots H vm₁ cA comp 0 ((T.setVm vm₁).pushCell (mo cA H.size 0)) := mJ_0 X₁ hT
  have hll : e.platform.arrayLengthLimit = 2147483645 := Launch.admits_arrayLengthLimit X.admits
  have hhb : e.platform.maxHeapBytes = 536870912 := Launch.admits_maxHeapBytes X.admits
  have J := mU_J (U := T.setVm vm₁) hn J0
  obtain ⟨t, ht, hq⟩ := kk (mU cA comp H.size (T.setVm vm₁) 6).heap (J 6).2.2.1 (J 6).2.2.2.1 (J 6).2.2.2.2.1 (J 6).2.2.2.2.2 _ rfl (J 6).1
  refine ⟨t, ?_, hq⟩
  have eh : (T.setVm vm₁).heap.size = H.size := by rw [← hT]; rfl
  have r0 := X₁.roomAbove hcells hslots
  jvm_step X.here [hexec, hdg]
  simp only [multianewarray.sem, wp_bind', W.resolveClassAt_links (State.method?_setTop (F0 m pc ls (.int 5 :: .int 6 :: rest)) X.here.top) hg₁]
  rw [W.popN, if_neg (by decide)]
  refine ⟨F0 m pc ls (.int 5 :: .int 6 :: rest), State.topJava?_setTop' (s := T.setVm vm₁) _ X.here.top, [.int 6, .int 5], rest, rfl, rfl, ?_⟩
  simp only [List.mapM_cons, List.mapM_nil, wp_bind', wp_pure']
  have eS : ((T.setTop (F0 m pc ls (.int 5 :: .int 6 :: rest))).setVm vm₁).setTop (F0 m pc ls rest) = (T.setVm vm₁).setTop (F0 m pc ls rest) := by
    show ((T.setVm vm₁).setTop (F0 m pc ls (.int 5 :: .int 6 :: rest))).setTop _ = _
    rw [State.setTop_setTop]
  rw [eS]
  have eT : ∀ i, mU cA comp H.size ((T.setVm vm₁).setTop (F0 m pc ls rest)) i = (mU cA comp H.size (T.setVm vm₁) i).setTop (F0 m pc ls rest) := mU_top cA comp H.size (T.setVm vm₁) (F0 m pc ls rest)
  have eh2 : ((T.setVm vm₁).setTop (F0 m pc ls rest)).heap.size = H.size := by rw [State.heap_setTop]; exact eh
  refine wp_make65 (k := kA₁) (kc := kC₁) (comp := comp) (c3 := c3) hkA₁ hkindA₁ hkC₁ hkindC₁ (by omega) (by omega) (fun i => ?_) ?_ ?_ (fun i hi => ?_) (fun d' acts' => ?_)
  · rw [eh2, eT]
    obtain ⟨j0, j1, j2, j3, j4, j5⟩ := J i
    exact ⟨by rw [State.heap_setTop]; exact j2, j1, by rw [State.heap_setTop]; exact j4⟩
  · rw [eh2]
    have := r0.1
    omega
  · have := r0.2
    show (T.setVm vm₁).slotsUsed + 6 ≤ _
    omega
  · rw [eh2, eT]
    obtain ⟨j0, j1, j2, j3, j4, j5⟩ := J i
    have z := j0.roomAbove (a := 1) (b := 5) (by omega) (by omega)
    exact ⟨by rw [State.heap_setTop]; omega, z.2⟩
  · rw [eh2, eT]
    have XF := (J 6).1
    simp only [wp_bind', W.mark, W.pushRef, State.topJava?_setTop' _ XF.here.top, Option.some.injEq, exists_eq_left', State.setTop_setTop, State.heap_setTop]
    intro acts
    simp [jvm, XF.here.top]
    exact ht
end MULTIW
section MULTIO
variable {l : Launch} {X : Nat × (Nat → Int32)} {q : Md} {d : Nat} {b : Nat × Nat} {pc : Nat}
noncomputable def wM (M : Mm) : Mm := ((mN M + 7, mC M + 7, mS M + 36, fun a => if a = mN M + 1 then (12, 6) else if mN M < a ∧ a ≤ mN M + 7 then (9, 5) else mK M a), (fun a j => if mN M < a ∧ a ≤ mN M + 7 then 0 else M.2.1 a j), (fun a j => if mN M < a ∧ a ≤ mN M + 7 then 0 else M.2.2.1 a j), fun a j => if a = mN M + 1 then (if j < 6 then mN M + 2 + j else 0) else if mN M < a ∧ a ≤ mN M + 7 then 0 else M.2.2.2 a j)
theorem wM_old {M : Mm} : old M (wM M) := by
  intro a ha
  have h1 : ¬ a = mN M + 1 := by omega
  have h2 : ¬ (mN M < a ∧ a ≤ mN M + 7) := by omega
  refine ⟨?_, ?_, ?_, ?_⟩
  · show (if a = mN M + 1 then (12, 6) else if mN M < a ∧ a ≤ mN M + 7 then (9, 5) else mK M a) = _
    rw [if_neg h1, if_neg h2]
  · funext j; exact if_neg h2
  · funext j; exact if_neg h2
  · funext j
    show (if a = mN M + 1 then _ else if mN M < a ∧ a ≤ mN M + 7 then 0 else M.2.2.2 a j) = _
    rw [if_neg h1, if_neg h2]
    rfl
theorem wM_kO {M : Mm} (h : kO M) : kO (wM M) := by
  intro a j
  show (if a = mN M + 1 then (if j < 6 then mN M + 2 + j else 0) else if mN M < a ∧ a ≤ mN M + 7 then 0 else M.2.2.2 a j) ≤ mN M + 7
  have := h a j
  have h2 : M.2.2.2 a j ≤ mN M := h a j
  split
  · split <;> omega
  · split <;> omega
noncomputable def adm (ad : Nat → Nat) (n h : Nat) : Nat → Nat := fun k => if n < k ∧ k ≤ n + 7 then h + (k - (n + 1)) else ad k
theorem adm_o {ad : Nat → Nat} {n h : Nat} (hn : n + 7 ≤ 4000) : ∀ k, k ≤ n ∨ 4999 ≤ k → adm ad n h k = ad k := fun k hk => if_neg (by omega)
theorem adm_s {ad : Nat → Nat} {n h i : Nat} (hi : i < 7) : adm ad n h (n + 1 + i) = h + i := by
  unfold adm
  rw [if_pos (by omega)]
  omega
noncomputable def oN2 (b : Nat × Nat) (pc : Nat) : OP := fun kn _ ls st M => match st with
  | .int v :: .int w :: st => cond (ro b M ls st 7 36) ((v = 5 ∧ w = 6) ∧ kn (pc + 4) ls (.ref (mN M + 1) :: st) (wM M)) False
  | _ => False
theorem ok_n2 {idx : Nat} (hw : Cond.classLink q.1.cls idx "[[I" ∈ wB) (hd : decode q.2.1 pc = .ok (.multianewarray idx 2, 4)) : OK l X q d false b pc (oN2 b pc) := by
  intro kn kr ls st M hk h
  simp only [oN2] at h
  split at h
  · rename_i v w st
    obtain ⟨h0, ⟨ev, ew⟩, hh⟩ := condT h
    subst ev
    subst ew
    obtain ⟨n1, n2, n3, n4, n5⟩ := ro_of h0
    have eN : mN (wM M) = mN M + 7 := rfl
    have eC : mC (wM M) = mC M + 7 := rfl
    have eS : mS (wM M) = mS M + 36 := rfl
    refine Wf.alloc (M' := wM M) (by omega) (by omega) (by omega) (by omega) (by omega) (by omega) wM_kO n2 (fun p e R s m args below meth c' H locs cells slots Q D g ad A la hx hb hown hts hK hAO hO hP hD hS hA g1 g2 kx => ?_) (hk _ _ _ _ hh)
    rw [show mC (wM M) - mC M = 7 by omega] at g1 kx
    rw [show mS (wM M) - mS M = 36 by omega] at g2 kx
    obtain ⟨kA, hkA, hkindA⟩ := hAO.2.1
    obtain ⟨-, kC, hkC, c3, hkindC⟩ := (hK.2 1 _ rfl).1 5 (fun _ => .int 0)
    have hnA : s.vm.findClass "[[I" = some (g 12) := (hK.2 4 _ rfl).2
    refine W_multi hx hb hown (hts _ hw) hnA hkA hkindA hkC hkindC hd g1 g2 hS.1 (fun H1 z1 z2 z3 z4 => ?_)
    have hold : ∀ (k : Nat) (x : Nat × va_E), (wl g ad M)[k]? = some x → H1[x.1]? = H[x.1]? := fun k x hx => z2 x.1 ((hP k x hx).lt)
    have ew := wl_grow (g := g) (ad := ad) (ad' := adm ad (mN M) H.size) (M := M) (M' := wM M) (k := 7) hO (adm_o n1) rfl wM_old
    have e0 : er (adm ad (mN M) H.size) (wM M) (mN M + 1) = fun j => if j < 6 then some (H.size + 1 + j) else none := by
      funext j
      have hR : mR (wM M) (mN M + 1) j = if j < 6 then mN M + 2 + j else 0 := if_pos rfl
      unfold er
      rw [hR]
      by_cases hj : j < 6
      · rw [if_pos hj, if_pos hj, show mN M + 2 + j = mN M + 1 + j + 1 by omega]
        show some (adm ad (mN M) H.size (mN M + 1 + j + 1)) = _
        rw [show mN M + 1 + j + 1 = mN M + 1 + (j + 1) by omega, adm_s (by omega)]
        congr 1
        omega
      · rw [if_neg hj, if_neg hj]
    have en0 : en g (adm ad (mN M) H.size) (wM M) (mN M + 1) = .inl (g 12, 6, .inr (.inr (.inr (.inr (fun j => if j < 6 then some (H.size + 1 + j) else none))))) := by
      have hK1 : mK (wM M) (mN M + 1) = (12, 6) := if_pos rfl
      rw [en_q (c := 12) (by rw [hK1]) (by decide), hK1, e0]
    have en1 : ∀ i, i < 6 → en g (adm ad (mN M) H.size) (wM M) (mN M + 1 + (i + 1)) = .inl (g 9, 5, .inl (fun _ => 0)) := by
      intro i hi
      have hK1 : mK (wM M) (mN M + 1 + (i + 1)) = (9, 5) := by
        show (if mN M + 1 + (i + 1) = mN M + 1 then (12, 6) else if mN M < mN M + 1 + (i + 1) ∧ mN M + 1 + (i + 1) ≤ mN M + 7 then (9, 5) else mK M _) = _
        rw [if_neg (by omega), if_pos (by omega)]
      have hI1 : mI (wM M) (mN M + 1 + (i + 1)) = fun _ => 0 := funext fun j => if_pos (by omega)
      rw [en_i (by rw [hK1]), hK1, hI1]
    have hat : ∀ i x, ((List.range 7).map (fun i => (adm ad (mN M) H.size (mN M + 1 + i), en g (adm ad (mN M) H.size) (wM M) (mN M + 1 + i))))[i]? = some x → x.1 = H.size + i ∧ va_at D vwCl x H1 := by
      intro i x hx
      rw [List.getElem?_map] at hx
      by_cases hi : i < 7
      · rw [List.getElem?_range hi] at hx
        cases hx
        refine ⟨adm_s hi, ?_⟩
        cases i with
        | zero =>
          show va_at D vwCl (adm ad (mN M) H.size (mN M + 1 + 0), en g (adm ad (mN M) H.size) (wM M) (mN M + 1)) H1
          rw [en0]
          show H1[adm ad (mN M) H.size (mN M + 1 + 0)]? = some (vp_cell _ _)
          rw [adm_s (by omega), vp_cell_q, Nat.add_zero, z3]
          unfold mo
          congr 2
          funext j
          by_cases hj : j < 6
          · rw [if_pos hj, if_pos hj]; rfl
          · rw [if_neg hj, if_neg hj]; rfl
        | succ i =>
          show va_at D vwCl (adm ad (mN M) H.size (mN M + 1 + (i + 1)), en g (adm ad (mN M) H.size) (wM M) (mN M + 1 + (i + 1))) H1
          rw [en1 i (by omega)]
          show H1[adm ad (mN M) H.size (mN M + 1 + (i + 1))]? = some (vp_cell _ _)
          rw [adm_s hi, vp_cell_i, show H.size + (i + 1) = H.size + 1 + i by omega]
          exact z4 i (by omega)
      · rw [List.getElem?_eq_none (by simp; omega)] at hx
        cases hx
    have := kx (adm ad (mN M) H.size) H1 locs (adm_o n1) (by rw [ew]; exact (hP.kept hold).app (fun i x hx => (hat i x hx).2)) (by
      rw [ew]
      refine va_D.app hD ⟨fun i j x y hx hy hxy => ?_, fun k x hx => ?_⟩ (fun i j x y hx hy hxy => ?_)
      · have := (hat i x hx).1
        have := (hat j y hy).1
        omega
      · rw [(hat k x hx).1]
        exact hA _ (Nat.le_trans hS.1 (Nat.le_add_right _ _))
      · have h1 := (hat j y hy).1
        have h2 : x.1 < H.size := (hP i x hx).lt
        omega) ⟨Nat.le_trans hS.1 (by omega), fun a h1 h2 => (z2 a (Nat.lt_of_lt_of_le h1 hS.1)).trans (hS.2.1 a h1 h2), hS.2.2⟩
    have ea : adm ad (mN M) H.size (mN M + 1) = H.size := adm_s (i := 0) (by decide)
    rw [List.map_cons, iv_ref (show 0 < mN M + 1 from Nat.succ_pos _), ea, ivs_rk (adm_o n1) n3] at this
    exact this
  · exact h.elim
end MULTIO
end
section
/-! memories by lists: the names' kinds, lengths, references; all numbers 0 -/
noncomputable abbrev Dl : Type := List (Nat × Nat × List Nat)
noncomputable def kd (D : Dl) : Nat → Nat × Nat
  | 0 => (0, 0)
  | a + 1 => ((D.getD a (0, 0, [])).1, (D.getD a (0, 0, [])).2.1)
noncomputable def rd (D : Dl) (a i : Nat) : Nat := match a with
  | 0 => 0
  | a + 1 => (D.getD a (0, 0, [])).2.2.getD i 0
noncomputable def mkD (D : Dl) (s : Nat) (I : Nat → Nat → Int32) : Mm := ((D.length, D.length, s, kd D), I, (fun _ _ => 0), rd D)
noncomputable def I00 : Nat → Nat → Int32 := fun _ _ => 0
noncomputable def dA (D : Dl) (k n m : Nat) : Dl := D ++ [(k, n, List.replicate m 0)]
noncomputable def dR (D : Dl) (a i v : Nat) : Dl := D.modify (a - 1) (fun x => (x.1, x.2.1, x.2.2.set i v))
noncomputable def rln (D : Dl) (a : Nat) : Nat := (D.getD (a - 1) (0, 0, [])).2.2.length
theorem gd_none {D : Dl} {a : Nat} (h : D.length ≤ a) : D.getD a (0, 0, []) = (0, 0, []) := by
  rw [List.getD_eq_getElem?_getD, List.getElem?_eq_none h]
  rfl
theorem dA_len {D : Dl} {k n m : Nat} : (dA D k n m).length = D.length + 1 := by simp [dA]
theorem dR_len {D : Dl} {a i v : Nat} : (dR D a i v).length = D.length := by simp [dR]
theorem dA_o {D : Dl} {k n m a : Nat} (h : a < D.length) : (dA D k n m).getD a (0, 0, []) = D.getD a (0, 0, []) := by
  unfold dA
  rw [List.getD_eq_getElem?_getD, List.getD_eq_getElem?_getD, List.getElem?_append_left h]
theorem dA_s {D : Dl} {k n m : Nat} : (dA D k n m).getD D.length (0, 0, []) = (k, n, List.replicate m 0) := by
  unfold dA
  rw [List.getD_eq_getElem?_getD, List.getElem?_append_right (Nat.le_refl _), Nat.sub_self]
  rfl
theorem dR_o {D : Dl} {a i v b : Nat} (h : b ≠ a - 1) : (dR D a i v).getD b (0, 0, []) = D.getD b (0, 0, []) := by
  unfold dR
  have e : ¬ a - 1 = b := fun z => h z.symm
  rw [List.getD_eq_getElem?_getD, List.getD_eq_getElem?_getD, List.getElem?_modify]
  simp [e]
theorem dR_s {D : Dl} {a i v : Nat} (h : a - 1 < D.length) : (dR D a i v).getD (a - 1) (0, 0, []) = ((D.getD (a - 1) (0, 0, [])).1, (D.getD (a - 1) (0, 0, [])).2.1, (D.getD (a - 1) (0, 0, [])).2.2.set i v) := by
  unfold dR
  rw [List.getD_eq_getElem?_getD, List.getD_eq_getElem?_getD, List.getElem?_modify, List.getElem?_eq_getElem h]
  simp
/-- the self of a constructor -/
noncomputable def slf (D : Dl) (a c n : Nat) : Prop := 0 < a ∧ a ≤ D.length ∧ kd D a = (c, 0) ∧ rln D a = n
theorem kd_dA {D : Dl} {k n m a : Nat} (h : a ≤ D.length) : kd (dA D k n m) a = kd D a := by
  cases a with
  | zero => rfl
  | succ a => show (_, _) = (_, _); rw [dA_o h]
theorem kd_dAs {D : Dl} {k n m : Nat} : kd (dA D k n m) (D.length + 1) = (k, n) := by
  show (_, _) = (_, _); rw [dA_s]
theorem kd_dR {D : Dl} {a i v b : Nat} : kd (dR D a i v) b = kd D b := by
  cases b with
  | zero => rfl
  | succ b =>
    by_cases h : b = a - 1
    · by_cases hl : a - 1 < D.length
      · subst h
        show (_, _) = (_, _)
        rw [dR_s hl]
      · have h1 : (dR D a i v).getD b (0, 0, []) = D.getD b (0, 0, []) := by
          rw [List.getD_eq_getElem?_getD, List.getD_eq_getElem?_getD, List.getElem?_eq_none (by rw [dR_len]; omega), List.getElem?_eq_none (by omega)]
        show (_, _) = (_, _); rw [h1]
    · show (_, _) = (_, _); rw [dR_o h]
theorem slf_dA {D : Dl} {a c n k m z : Nat} (h : slf D a c n) : slf (dA D k m z) a c n := by
  obtain ⟨h0, h1, h2, h3⟩ := h
  refine ⟨h0, by rw [dA_len]; omega, by rw [kd_dA h1]; exact h2, ?_⟩
  unfold rln at h3 ⊢
  rw [dA_o (by omega)]
  exact h3
theorem slf_dR {D : Dl} {a c n b i v : Nat} (h : slf D a c n) : slf (dR D b i v) a c n := by
  obtain ⟨h0, h1, h2, h3⟩ := h
  refine ⟨h0, by rw [dR_len]; exact h1, by rw [kd_dR]; exact h2, ?_⟩
  unfold rln at h3 ⊢
  by_cases e : a - 1 = b - 1
  · rw [e, dR_s (by omega), List.length_set, ← e]
    exact h3
  · rw [dR_o e]
    exact h3
theorem slf_new {D : Dl} {c n : Nat} : slf (dA D c 0 n) (D.length + 1) c n := by
  refine ⟨Nat.succ_pos _, by rw [dA_len]; exact Nat.le_refl _, kd_dAs, ?_⟩
  unfold rln
  rw [Nat.add_sub_cancel, dA_s, List.length_replicate]
theorem wA_D {D : Dl} {s k n m z : Nat} {I : Nat → Nat → Int32} (hI : ∀ j, I (D.length + 1) j = 0) : wA (mkD D s I) (k, n) m = mkD (dA D k n z) (s + m) I := by
  have hl := dA_len (D := D) (k := k) (n := n) (m := z)
  have hi : ∀ b : Nat, (if b = D.length + 1 then (k, n) else kd D b) = kd (dA D k n z) b := by
    intro b
    by_cases h : b = D.length + 1
    · rw [if_pos h, h, kd_dAs]
    · rw [if_neg h]
      by_cases h2 : b ≤ D.length
      · rw [kd_dA h2]
      · cases b with
        | zero => rfl
        | succ b =>
          show (_, _) = (_, _)
          rw [List.getD_eq_getElem?_getD, List.getD_eq_getElem?_getD, List.getElem?_eq_none (by omega), List.getElem?_eq_none (by rw [hl]; omega)]
  have hr : ∀ b j : Nat, (if b = D.length + 1 then 0 else rd D b j) = rd (dA D k n z) b j := by
    intro b j
    by_cases h : b = D.length + 1
    · rw [if_pos h, h]
      show 0 = ((dA D k n z).getD D.length (0, 0, [])).2.2.getD j 0
      rw [dA_s]
      show 0 = (List.replicate z 0).getD j 0
      rw [List.getD_eq_getElem?_getD, List.getElem?_replicate]
      split <;> rfl
    · rw [if_neg h]
      cases b with
      | zero => rfl
      | succ b =>
        show ((D.getD b (0, 0, [])).2.2.getD j 0) = ((dA D k n z).getD b (0, 0, [])).2.2.getD j 0
        by_cases h2 : b < D.length
        · rw [dA_o h2]
        · rw [gd_none (D := D) (by omega), gd_none (D := dA D k n z) (by rw [hl]; omega)]
  show ((D.length + 1, D.length + 1, s + m, fun b => if b = D.length + 1 then (k, n) else kd D b), (fun b j => if b = D.length + 1 then 0 else I b j), (fun b j => if b = D.length + 1 then 0 else (0 : Int64)), (fun b j => if b = D.length + 1 then 0 else rd D b j)) = (((dA D k n z).length, (dA D k n z).length, s + m, kd (dA D k n z)), I, (fun _ _ => (0 : Int64)), rd (dA D k n z))
  rw [hl, show (fun b => if b = D.length + 1 then (k, n) else kd D b) = kd (dA D k n z) from funext hi, show (fun b j => if b = D.length + 1 then 0 else rd D b j) = rd (dA D k n z) from funext fun b => funext fun j => hr b j]
  have hII : (fun b j => if b = D.length + 1 then 0 else I b j) = I := by
    funext b j
    by_cases h : b = D.length + 1
    · rw [if_pos h, h, hI j]
    · rw [if_neg h]
  rw [hII]
  simp only [ite_self]
theorem wR_D {D : Dl} {s a i v : Nat} {I : Nat → Nat → Int32} (h0 : 0 < a) (h1 : a ≤ D.length) (h2 : i < rln D a) : wR (mkD D s I) a i v = mkD (dR D a i v) s I := by
  have hl := dR_len (D := D) (a := a) (i := i) (v := v)
  have hr : ∀ b j : Nat, (if b = a ∧ j = i then v else rd D b j) = rd (dR D a i v) b j := by
    intro b j
    cases b with
    | zero => rw [if_neg (by omega)]; rfl
    | succ b =>
      show _ = ((dR D a i v).getD b (0, 0, [])).2.2.getD j 0
      by_cases e : b = a - 1
      · subst e
        rw [dR_s (by omega)]
        show _ = ((D.getD (a - 1) (0, 0, [])).2.2.set i v).getD j 0
        rw [List.getD_eq_getElem?_getD, List.getElem?_set]
        by_cases ej : i = j
        · rw [if_pos ⟨by omega, ej.symm⟩, if_pos ej, if_pos (show i < (D.getD (a - 1) (0, 0, [])).2.2.length from h2)]
          rfl
        · rw [if_neg (fun z => ej z.2.symm), if_neg ej, ← List.getD_eq_getElem?_getD]
          rfl
      · rw [if_neg (by omega), dR_o e]
        rfl
  show ((D.length, D.length, s, kd D), I, (fun _ _ => (0 : Int64)), (fun b j => if b = a ∧ j = i then v else rd D b j)) = (((dR D a i v).length, (dR D a i v).length, s, kd (dR D a i v)), I, (fun _ _ => (0 : Int64)), rd (dR D a i v))
  rw [hl, show kd (dR D a i v) = kd D from funext fun b => kd_dR, show (fun b j => if b = a ∧ j = i then v else rd D b j) = rd (dR D a i v) from funext fun b => funext fun j => hr b j]
theorem wI_D {D : Dl} {s a i : Nat} : wI (mkD D s I00) a i 0 = mkD D s I00 := by
  show ((D.length, D.length, s, kd D), (fun b j => if b = a ∧ j = i then (0 : Int32) else 0), _, _) = _
  simp only [ite_self]
  rfl
end
section
/-! constructors, piece by piece -/
section CHUNK
variable {l : Launch} {X : Nat × (Nat → Int32)} {q : Md} {d : Nat} {na : Bool} {b : Nat × Nat} {pc : Nat} {kr : KR} {ls : Ls} {st : List Value} {M : Mm}
theorem OK.go {o : OP} (h : OK l X q d na b pc o) (k : o (fun pc' ls' st' M' => Wf l X q d na b pc' ls' st' M' kr) kr ls st M) : Wf l X q d na b pc ls st M kr := h _ _ _ _ _ (fun _ _ _ _ z => z) k
theorem kk_D {D : Dl} {s : Nat} {I : Nat → Nat → Int32} {a c n : Nat} (h : 0 < a ∧ a ≤ D.length ∧ kd D a = (c, n)) : kk (mkD D s I) a c = true := by
  unfold kk
  rw [Bool.and_eq_true_iff, Bool.and_eq_true_iff]
  refine ⟨Nat.ble_eq_true_of_le h.1, Nat.ble_eq_true_of_le h.2.1, ?_⟩
  show Nat.beq (kd D a).1 c = true
  rw [h.2.2]
  exact Nat.beq_refl c
theorem rk_le {n a : Nat} (h : a ≤ n) : rk n (.ref a) = true := by
  unfold rk
  show (Nat.ble a n || Nat.ble 4999 a) = true
  rw [Nat.ble_eq_true_of_le h]
  rfl
theorem ro_D {D : Dl} {s : Nat} {I : Nat → Nat → Int32} {k n : Nat} (h1 : D.length + k ≤ 4000) (h2 : ls.all (fun x => rk D.length x.2) = true) (h3 : st.all (rk D.length) = true) (h4 : D.length + k ≤ b.1) (h5 : s + n ≤ b.2) : ro b (mkD D s I) ls st k n = true := by
  unfold ro
  rw [Bool.and_eq_true_iff, Bool.and_eq_true_iff, Bool.and_eq_true_iff, Bool.and_eq_true_iff]
  exact ⟨Nat.ble_eq_true_of_le h1, h2, h3, Nat.ble_eq_true_of_le h4, Nat.ble_eq_true_of_le h5⟩
theorem blt0 {a : Nat} (h : 0 < a) : Nat.blt 0 a = true := Nat.ble_eq_true_of_le h
/-- aload_0 -/
theorem go_a0 {a : Nat} (h : OK l X q d na b pc (oAl pc 1 0)) (h0 : lg ls 0 = some (.ref a)) (ha : 0 < a) (k : Wf l X q d na b (pc + 1) ls (.ref a :: st) M kr) : Wf l X q d na b pc ls st M kr := by
  refine h.go ?_
  show (match lg ls 0 with
    | some (.ref a) => cond (Nat.blt 0 a) (Wf l X q d na b (pc + 1) ls (.ref a :: st) M kr) False
    | _ => False)
  rw [h0]
  show cond (Nat.blt 0 a) _ False
  rw [blt0 ha]
  exact k
/-- a new array in a field -/
noncomputable def fa (D : Dl) (a k n f : Nat) : Dl := dR (dA D k n 0) a f (D.length + 1)
theorem fa_len {D : Dl} {a k n f : Nat} : (fa D a k n f).length = D.length + 1 := by unfold fa; rw [dR_len, dA_len]
theorem slf_fa {D : Dl} {a k n f b c N : Nat} (h : slf D b c N) : slf (fa D a k n f) b c N := slf_dR (slf_dA h)
theorem als {a n : Nat} (h : a ≤ n) : ([(0, .ref a)] : Ls).all (fun x => rk n x.2) = true := by rw [List.all_cons, rk_le h]; rfl
/-- field := new array -/
theorem ch_arr {D : Dl} {I : Nat → Nat → Int32} {s a c N k n w f p1 p2 p3 p4 : Nat} {v : Int32} (h1 : OK l X q d false b pc (oAl pc 1 0)) (h2 : OK l X q d false b p1 (oIc p1 w v)) (h3 : OK l X q d false b p2 (oNa b p2 k n v)) (h4 : OK l X q d false b p3 (oPR p3 c f)) (e1 : pc + 1 = p1) (e2 : p1 + w = p2) (e3 : p2 + 2 = p3) (e4 : p3 + 3 = p4)
    (hI : ∀ j, I (D.length + 1) j = 0) (hs : slf D a c N) (hf : f < N) (h0 : lg ls 0 = some (.ref a)) (hls : ls.all (fun x => rk D.length x.2) = true) (hn : D.length + 1 ≤ 4000) (hb : D.length + 1 ≤ b.1 ∧ s + n ≤ b.2) (kk0 : Wf l X q d false b p4 ls [] (mkD (fa D a k n f) (s + n) I) kr) : Wf l X q d false b pc ls [] (mkD D s I) kr := by
  subst e1 e2 e3 e4
  refine go_a0 h1 h0 hs.1 ?_
  refine h2.go ?_
  show Wf l X q d false b (pc + 1 + w) ls (.int v :: [.ref a]) (mkD D s I) kr
  refine h3.go ?_
  show cond (ro b (mkD D s I) ls [.ref a] 1 n) (v = v ∧ Wf l X q d false b (pc + 1 + w + 2) ls (.ref (D.length + 1) :: [.ref a]) (wA (mkD D s I) (k, n) n) kr) False
  rw [ro_D hn hls (by rw [List.all_cons, rk_le hs.2.1]; rfl) hb.1 hb.2]
  refine ⟨rfl, ?_⟩
  rw [wA_D (z := 0) hI]
  refine h4.go ?_
  have hs' := slf_dA (k := k) (m := n) (z := 0) hs
  show cond (kk (mkD (dA D k n 0) (s + n) I) a c && (Nat.blt 0 (D.length + 1) && Nat.ble (D.length + 1) (dA D k n 0).length)) (Wf l X q d false b (pc + 1 + w + 2 + 3) ls [] (wR (mkD (dA D k n 0) (s + n) I) a f (D.length + 1)) kr) False
  rw [kk_D ⟨hs'.1, hs'.2.1, hs'.2.2.1⟩, blt0 (Nat.succ_pos _), dA_len, Nat.ble_eq_true_of_le (Nat.le_refl _), wR_D hs'.1 hs'.2.1 (by rw [hs'.2.2.2]; exact hf)]
  exact kk0
/-- field := 0 -/
theorem ch_i0 {D : Dl} {s a c N f p1 p2 p3 : Nat} (h1 : OK l X q d na b pc (oAl pc 1 0)) (h2 : OK l X q d na b p1 (oIc p1 1 0)) (h3 : OK l X q d na b p2 (oPI p2 c f)) (e1 : pc + 1 = p1) (e2 : p1 + 1 = p2) (e3 : p2 + 3 = p3) (hs : slf D a c N) (h0 : lg ls 0 = some (.ref a)) (k : Wf l X q d na b p3 ls [] (mkD D s I00) kr) : Wf l X q d na b pc ls [] (mkD D s I00) kr := by
  subst e1 e2 e3
  refine go_a0 h1 h0 hs.1 ?_
  refine h2.go ?_
  show Wf l X q d na b (pc + 1 + 1) ls (.int 0 :: [.ref a]) (mkD D s I00) kr
  refine h3.go ?_
  show cond (kk (mkD D s I00) a c) (Wf l X q d na b (pc + 1 + 1 + 3) ls [] (wI (mkD D s I00) a f 0) kr) False
  rw [kk_D ⟨hs.1, hs.2.1, hs.2.2.1⟩, wI_D]
  exact k
/-- Object's constructor -/
theorem ch_oi {D : Dl} {s a c N p1 p2 : Nat} (h1 : OK l X q (d + 1) na b pc (oAl pc 1 0)) (h2 : OK l X q (d + 1) na b p1 (oOi p1)) (e1 : pc + 1 = p1) (e2 : p1 + 3 = p2) (hs : slf D a c N) (h0 : lg ls 0 = some (.ref a)) (k : Wf l X q (d + 1) na b p2 ls [] (mkD D s I00) kr) : Wf l X q (d + 1) na b pc ls [] (mkD D s I00) kr := by
  subst e1 e2
  refine go_a0 h1 h0 hs.1 ?_
  refine h2.go ?_
  show cond (Nat.blt 0 a && Nat.ble (cs []) 8) (Wf l X q (d + 1) na b (pc + 1 + 3) ls [] (mkD D s I00) kr) False
  rw [blt0 hs.1]
  exact k
/-- field := new Moment[n] -/
theorem ch_mar {D : Dl} {s a c N n w f p1 p2 p3 p4 : Nat} {v : Int32} (h1 : OK l X q d false b pc (oAl pc 1 0)) (h2 : OK l X q d false b p1 (oIc p1 w v)) (h3 : OK l X q d false b p2 (oNq b p2 n v)) (h4 : OK l X q d false b p3 (oPR p3 c f)) (e1 : pc + 1 = p1) (e2 : p1 + w = p2) (e3 : p2 + 3 = p3) (e4 : p3 + 3 = p4)
    (hs : slf D a c N) (hf : f < N) (h0 : lg ls 0 = some (.ref a)) (hls : ls.all (fun x => rk D.length x.2) = true) (hn : D.length + 1 ≤ 4000) (hb : D.length + 1 ≤ b.1 ∧ s + n ≤ b.2) (kk0 : Wf l X q d false b p4 ls [] (mkD (dR (dA D 11 n n) a f (D.length + 1)) (s + n) I00) kr) : Wf l X q d false b pc ls [] (mkD D s I00) kr := by
  subst e1 e2 e3 e4
  refine go_a0 h1 h0 hs.1 ?_
  refine h2.go ?_
  show Wf l X q d false b (pc + 1 + w) ls (.int v :: [.ref a]) (mkD D s I00) kr
  refine h3.go ?_
  show cond (ro b (mkD D s I00) ls [.ref a] 1 n) (v = v ∧ Wf l X q d false b (pc + 1 + w + 3) ls (.ref (D.length + 1) :: [.ref a]) (wA (mkD D s I00) (11, n) n) kr) False
  rw [ro_D hn hls (by rw [List.all_cons, rk_le hs.2.1]; rfl) hb.1 hb.2]
  refine ⟨rfl, ?_⟩
  rw [wA_D (z := n) (fun _ => rfl)]
  refine h4.go ?_
  have hs' := slf_dA (k := 11) (m := n) (z := n) hs
  show cond (kk (mkD (dA D 11 n n) (s + n) I00) a c && (Nat.blt 0 (D.length + 1) && Nat.ble (D.length + 1) (dA D 11 n n).length)) (Wf l X q d false b (pc + 1 + w + 3 + 3) ls [] (wR (mkD (dA D 11 n n) (s + n) I00) a f (D.length + 1)) kr) False
  rw [kk_D ⟨hs'.1, hs'.2.1, hs'.2.2.1⟩, blt0 (Nat.succ_pos _), dA_len, Nat.ble_eq_true_of_le (Nat.le_refl _), wR_D hs'.1 hs'.2.1 (by rw [hs'.2.2.2]; exact hf)]
  exact kk0
end CHUNK
end
