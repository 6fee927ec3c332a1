section PUB
variable {l : Launch} {X : Nat × (Nat → Int32)} {M : Mm} {kr : KR}
def m7_face : Md3 := [(150, 0, 0), (150, 11, 11)]
theorem p7_face (d : Nat) {x1 x2 : Int32} (hL : LI M) (h : ∀ (x : Int32) (M' : Mm), LI M' → M'.1 = M.1 → kp m7_face M M' → kr (some (.int x)) M') : Ev l X uX7_face (d + 12) true 0 0 [.ref 150, .int x1, .int x2] M kr := by
  obtain ⟨h8, ⟨p, hp, hI⟩, ht⟩ := hL
  rcases lt2 hp.1 with rfl | rfl
  · exact r7_of1 (K := Kc276) (t := 0) hp (vc276 (d + 10)) (by decide +kernel) h8 hI ht ⟨⟨rfl, List.mem_singleton.mpr rfl⟩, ⟨⟨rfl, i32_lo _, i32_hi _⟩, ⟨⟨rfl, i32_lo _, i32_hi _⟩, trivial⟩⟩⟩ (fun v M' hv hL' h1 h2 => iV hv (fun x e => e ▸ h x M' hL' h1 (kpw h2 (by decide +kernel))))
  · exact r7_of1 (K := Kc434) (t := 0) hp (vc434 (d + 10)) (by decide +kernel) h8 hI ht ⟨⟨rfl, List.mem_singleton.mpr rfl⟩, ⟨⟨rfl, i32_lo _, i32_hi _⟩, ⟨⟨rfl, i32_lo _, i32_hi _⟩, trivial⟩⟩⟩ (fun v M' hv hL' h1 h2 => iV hv (fun x e => e ▸ h x M' hL' h1 (kpw h2 (by decide +kernel))))
def m7_canon : Md3 := [(150, 0, 0), (150, 11, 11)]
theorem p7_canon (d : Nat) {x1 x2 : Int32} (hL : LI M) (h : ∀ (x : Int32) (M' : Mm), LI M' → M'.1 = M.1 → kp m7_canon M M' → kr (some (.int x)) M') : Ev l X uX7_canon (d + 12) true 0 0 [.ref 150, .int x1, .int x2] M kr := by
  obtain ⟨h8, ⟨p, hp, hI⟩, ht⟩ := hL
  rcases lt2 hp.1 with rfl | rfl
  · exact r7_of1 (K := Kc280) (t := 0) hp (vc280 (d + 10)) (by decide +kernel) h8 hI ht ⟨⟨rfl, List.mem_singleton.mpr rfl⟩, ⟨⟨rfl, i32_lo _, i32_hi _⟩, ⟨⟨rfl, i32_lo _, i32_hi _⟩, trivial⟩⟩⟩ (fun v M' hv hL' h1 h2 => iV hv (fun x e => e ▸ h x M' hL' h1 (kpw h2 (by decide +kernel))))
  · exact r7_of1 (K := Kc436) (t := 0) hp (vc436 (d + 10)) (by decide +kernel) h8 hI ht ⟨⟨rfl, List.mem_singleton.mpr rfl⟩, ⟨⟨rfl, i32_lo _, i32_hi _⟩, ⟨⟨rfl, i32_lo _, i32_hi _⟩, trivial⟩⟩⟩ (fun v M' hv hL' h1 h2 => iV hv (fun x e => e ▸ h x M' hL' h1 (kpw h2 (by decide +kernel))))
def m7_cell : Md3 := [(150, 0, 0), (150, 11, 11), (150, 26, 26)]
theorem p7_cell (d : Nat) {x1 x2 : Int32} (hL : LI M) (h : ∀ (x : Int32) (M' : Mm), LI M' → M'.1 = M.1 → kp m7_cell M M' → kr (some (.int x)) M') : Ev l X uX7_cell (d + 12) true 0 0 [.ref 150, .int x1, .int x2] M kr := by
  obtain ⟨h8, ⟨p, hp, hI⟩, ht⟩ := hL
  rcases lt2 hp.1 with rfl | rfl
  · exact r7_of1 (K := Kc292) (t := 0) hp (vc292 (d + 8)) (by decide +kernel) h8 hI ht ⟨⟨rfl, List.mem_singleton.mpr rfl⟩, ⟨⟨rfl, i32_lo _, i32_hi _⟩, ⟨⟨rfl, i32_lo _, i32_hi _⟩, trivial⟩⟩⟩ (fun v M' hv hL' h1 h2 => iV hv (fun x e => e ▸ h x M' hL' h1 (kpw h2 (by decide +kernel))))
  · exact r7_of1 (K := Kc438) (t := 0) hp (vc438 (d + 10)) (by decide +kernel) h8 hI ht ⟨⟨rfl, List.mem_singleton.mpr rfl⟩, ⟨⟨rfl, i32_lo _, i32_hi _⟩, ⟨⟨rfl, i32_lo _, i32_hi _⟩, trivial⟩⟩⟩ (fun v M' hv hL' h1 h2 => iV hv (fun x e => e ▸ h x M' hL' h1 (kpw h2 (by decide +kernel))))
def m7_burden : Md3 := [(150, 0, 0), (150, 11, 11)]
theorem p7_burden (d : Nat) (hL : LI M) (h : ∀ (x : Int32) (M' : Mm), LI M' → M'.1 = M.1 → kp m7_burden M M' → kr (some (.int x)) M') : Ev l X uX7_burden (d + 12) true 0 0 [.ref 150] M kr := by
  obtain ⟨h8, ⟨p, hp, hI⟩, ht⟩ := hL
  rcases lt2 hp.1 with rfl | rfl
  · exact r7_of1 (K := Kc293) (t := 0) hp (vc293 (d + 11)) (by decide +kernel) h8 hI ht ⟨⟨rfl, List.mem_singleton.mpr rfl⟩, trivial⟩ (fun v M' hv hL' h1 h2 => iV hv (fun x e => e ▸ h x M' hL' h1 (kpw h2 (by decide +kernel))))
  · exact r7_of1 (K := Kc439) (t := 0) hp (vc439 (d + 11)) (by decide +kernel) h8 hI ht ⟨⟨rfl, List.mem_singleton.mpr rfl⟩, trivial⟩ (fun v M' hv hL' h1 h2 => iV hv (fun x e => e ▸ h x M' hL' h1 (kpw h2 (by decide +kernel))))
def m7_bears : Md3 := [(150, 0, 0), (150, 11, 11), (160, 0, 4), (161, 0, 24)]
theorem p7_bears (d : Nat) {x1 x2 : Int32} (hL : LI M) (h : ∀ (x : Int32) (M' : Mm), LI M' → M'.1 = M.1 → kp m7_bears M M' → kr (some (.int x)) M') : Ev l X uX7_bears (d + 12) true 0 0 [.ref 150, .int x1, .int x2] M kr := by
  obtain ⟨h8, ⟨p, hp, hI⟩, ht⟩ := hL
  rcases lt2 hp.1 with rfl | rfl
  · exact r7_of1 (K := Kc311) (t := 0) hp (vc311 (d + 9)) (by decide +kernel) h8 hI ht ⟨⟨rfl, List.mem_singleton.mpr rfl⟩, ⟨⟨rfl, i32_lo _, i32_hi _⟩, ⟨⟨rfl, i32_lo _, i32_hi _⟩, trivial⟩⟩⟩ (fun v M' hv hL' h1 h2 => iV hv (fun x e => e ▸ h x M' hL' h1 (kpw h2 (by decide +kernel))))
  · exact r7_of1 (K := Kc444) (t := 0) hp (vc444 (d + 10)) (by decide +kernel) h8 hI ht ⟨⟨rfl, List.mem_singleton.mpr rfl⟩, ⟨⟨rfl, i32_lo _, i32_hi _⟩, ⟨⟨rfl, i32_lo _, i32_hi _⟩, trivial⟩⟩⟩ (fun v M' hv hL' h1 h2 => iV hv (fun x e => e ▸ h x M' hL' h1 (kpw h2 (by decide +kernel))))
def m7_holds : Md3 := [(150, 0, 0), (150, 11, 11), (160, 0, 4), (161, 0, 24)]
theorem p7_holds (d : Nat) {x1 x2 : Int32} (hL : LI M) (h : ∀ (x : Int32) (M' : Mm), LI M' → M'.1 = M.1 → kp m7_holds M M' → kr (some (.int x)) M') : Ev l X uX7_holds (d + 12) true 0 0 [.ref 150, .int x1, .int x2] M kr := by
  obtain ⟨h8, ⟨p, hp, hI⟩, ht⟩ := hL
  rcases lt2 hp.1 with rfl | rfl
  · exact r7_of1 (K := Kc312) (t := 0) hp (vc312 (d + 9)) (by decide +kernel) h8 hI ht ⟨⟨rfl, List.mem_singleton.mpr rfl⟩, ⟨⟨rfl, i32_lo _, i32_hi _⟩, ⟨⟨rfl, i32_lo _, i32_hi _⟩, trivial⟩⟩⟩ (fun v M' hv hL' h1 h2 => iV hv (fun x e => e ▸ h x M' hL' h1 (kpw h2 (by decide +kernel))))
  · exact r7_of1 (K := Kc445) (t := 0) hp (vc445 (d + 10)) (by decide +kernel) h8 hI ht ⟨⟨rfl, List.mem_singleton.mpr rfl⟩, ⟨⟨rfl, i32_lo _, i32_hi _⟩, ⟨⟨rfl, i32_lo _, i32_hi _⟩, trivial⟩⟩⟩ (fun v M' hv hL' h1 h2 => iV hv (fun x e => e ▸ h x M' hL' h1 (kpw h2 (by decide +kernel))))
def m7_drops : Md3 := [(150, 0, 0), (150, 11, 11), (160, 0, 4), (161, 0, 24)]
theorem p7_drops (d : Nat) {x1 x2 : Int32} (hL : LI M) (h : ∀ (x : Int32) (M' : Mm), LI M' → M'.1 = M.1 → kp m7_drops M M' → kr (some (.int x)) M') : Ev l X uX7_drops (d + 12) true 0 0 [.ref 150, .int x1, .int x2] M kr := by
  obtain ⟨h8, ⟨p, hp, hI⟩, ht⟩ := hL
  rcases lt2 hp.1 with rfl | rfl
  · exact r7_of1 (K := Kc313) (t := 0) hp (vc313 (d + 9)) (by decide +kernel) h8 hI ht ⟨⟨rfl, List.mem_singleton.mpr rfl⟩, ⟨⟨rfl, i32_lo _, i32_hi _⟩, ⟨⟨rfl, i32_lo _, i32_hi _⟩, trivial⟩⟩⟩ (fun v M' hv hL' h1 h2 => iV hv (fun x e => e ▸ h x M' hL' h1 (kpw h2 (by decide +kernel))))
  · exact r7_of1 (K := Kc446) (t := 0) hp (vc446 (d + 10)) (by decide +kernel) h8 hI ht ⟨⟨rfl, List.mem_singleton.mpr rfl⟩, ⟨⟨rfl, i32_lo _, i32_hi _⟩, ⟨⟨rfl, i32_lo _, i32_hi _⟩, trivial⟩⟩⟩ (fun v M' hv hL' h1 h2 => iV hv (fun x e => e ▸ h x M' hL' h1 (kpw h2 (by decide +kernel))))
def m7_dropsIn : Md3 := [(150, 0, 0), (150, 11, 11), (160, 0, 4), (161, 0, 24)]
theorem p7_dropsIn (d : Nat) {x1 : Int32} (hL : LI M) (h : ∀ (x : Int32) (M' : Mm), LI M' → M'.1 = M.1 → kp m7_dropsIn M M' → kr (some (.int x)) M') : Ev l X uX7_dropsIn (d + 12) true 0 0 [.ref 150, .int x1] M kr := by
  obtain ⟨h8, ⟨p, hp, hI⟩, ht⟩ := hL
  rcases lt2 hp.1 with rfl | rfl
  · exact r7_of1 (K := Kc314) (t := 0) hp (vc314 (d + 9)) (by decide +kernel) h8 hI ht ⟨⟨rfl, List.mem_singleton.mpr rfl⟩, ⟨⟨rfl, i32_lo _, i32_hi _⟩, trivial⟩⟩ (fun v M' hv hL' h1 h2 => iV hv (fun x e => e ▸ h x M' hL' h1 (kpw h2 (by decide +kernel))))
  · exact r7_of1 (K := Kc447) (t := 0) hp (vc447 (d + 10)) (by decide +kernel) h8 hI ht ⟨⟨rfl, List.mem_singleton.mpr rfl⟩, ⟨⟨rfl, i32_lo _, i32_hi _⟩, trivial⟩⟩ (fun v M' hv hL' h1 h2 => iV hv (fun x e => e ▸ h x M' hL' h1 (kpw h2 (by decide +kernel))))
end PUB
