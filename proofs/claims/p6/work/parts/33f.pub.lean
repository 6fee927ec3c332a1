section PUB
variable {l : Launch} {X : Nat × (Nat → Int32)} {M : Mm} {kr : KR}
def m7_dryDay : Md3 := [(150, 0, 0), (150, 11, 11), (150, 26, 26), (160, 0, 4), (161, 0, 24), (164, 0, 19)]
theorem p7_dryDay (d : Nat) {x1 : Int32} (hL : LI M) (h : ∀ (x : Int32) (M' : Mm), LI M' → M'.1 = M.1 → kp m7_dryDay M M' → kr (some (.int x)) M') : Ev l X uX7_dryDay (d + 12) true 0 0 [.ref 150, .int x1] M kr := by
  obtain ⟨h8, ⟨p, hp, hI⟩, ht⟩ := hL
  rcases lt7 hp with rfl | rfl | rfl | rfl | rfl | rfl | rfl
  · exact r7_of1 (K := Kc345) (t := 0) hp (vc345 (d + 6)) (by decide +kernel) h8 hI ht ⟨⟨rfl, List.mem_singleton.mpr rfl⟩, ⟨⟨rfl, i32_lo _, i32_hi _⟩, trivial⟩⟩ (fun v M' hv hL' h1 h2 => iV hv (fun x e => e ▸ h x M' hL' h1 (kpw h2 (by decide +kernel))))
  · exact r7_of1 (K := Kc474) (t := 0) hp (vc474 (d + 6)) (by decide +kernel) h8 hI ht ⟨⟨rfl, List.mem_singleton.mpr rfl⟩, ⟨⟨rfl, i32_lo _, i32_hi _⟩, trivial⟩⟩ (fun v M' hv hL' h1 h2 => iV hv (fun x e => e ▸ h x M' hL' h1 (kpw h2 (by decide +kernel))))
  · exact r7_of1 (K := Kc604) (t := 0) hp (vc604 (d + 6)) (by decide +kernel) h8 hI ht ⟨⟨rfl, List.mem_singleton.mpr rfl⟩, ⟨⟨rfl, i32_lo _, i32_hi _⟩, trivial⟩⟩ (fun v M' hv hL' h1 h2 => iV hv (fun x e => e ▸ h x M' hL' h1 (kpw h2 (by decide +kernel))))
  · exact r7_of1 (K := Kc734) (t := 0) hp (vc734 (d + 6)) (by decide +kernel) h8 hI ht ⟨⟨rfl, List.mem_singleton.mpr rfl⟩, ⟨⟨rfl, i32_lo _, i32_hi _⟩, trivial⟩⟩ (fun v M' hv hL' h1 h2 => iV hv (fun x e => e ▸ h x M' hL' h1 (kpw h2 (by decide +kernel))))
  · exact r7_of1 (K := Kc865) (t := 0) hp (vc865 (d + 6)) (by decide +kernel) h8 hI ht ⟨⟨rfl, List.mem_singleton.mpr rfl⟩, ⟨⟨rfl, i32_lo _, i32_hi _⟩, trivial⟩⟩ (fun v M' hv hL' h1 h2 => iV hv (fun x e => e ▸ h x M' hL' h1 (kpw h2 (by decide +kernel))))
  · exact r7_of1 (K := Kc998) (t := 0) hp (vc998 (d + 6)) (by decide +kernel) h8 hI ht ⟨⟨rfl, List.mem_singleton.mpr rfl⟩, ⟨⟨rfl, i32_lo _, i32_hi _⟩, trivial⟩⟩ (fun v M' hv hL' h1 h2 => iV hv (fun x e => e ▸ h x M' hL' h1 (kpw h2 (by decide +kernel))))
  · exact r7_of1 (K := Kc1085) (t := 0) hp (vc1085 (d + 10)) (by decide +kernel) h8 hI ht ⟨⟨rfl, List.mem_singleton.mpr rfl⟩, ⟨⟨rfl, i32_lo _, i32_hi _⟩, trivial⟩⟩ (fun v M' hv hL' h1 h2 => iV hv (fun x e => e ▸ h x M' hL' h1 (kpw h2 (by decide +kernel))))
def m7_gate : Md3 := [(150, 0, 0), (150, 11, 11), (150, 26, 26), (164, 0, 19)]
theorem p7_gate (d : Nat) (hL : LI M) (h : ∀ (x : Int32) (M' : Mm), LI M' → M'.1 = M.1 → kp m7_gate M M' → kr (some (.int x)) M') : Ev l X uX7_gate (d + 12) true 0 0 [.ref 150] M kr := by
  obtain ⟨h8, ⟨p, hp, hI⟩, ht⟩ := hL
  rcases lt7 hp with rfl | rfl | rfl | rfl | rfl | rfl | rfl
  · exact r7_of1 (K := Kc347) (t := 0) hp (vc347 (d + 5)) (by decide +kernel) h8 hI ht ⟨⟨rfl, List.mem_singleton.mpr rfl⟩, trivial⟩ (fun v M' hv hL' h1 h2 => iV hv (fun x e => e ▸ h x M' hL' h1 (kpw h2 (by decide +kernel))))
  · exact r7_of1 (K := Kc476) (t := 0) hp (vc476 (d + 5)) (by decide +kernel) h8 hI ht ⟨⟨rfl, List.mem_singleton.mpr rfl⟩, trivial⟩ (fun v M' hv hL' h1 h2 => iV hv (fun x e => e ▸ h x M' hL' h1 (kpw h2 (by decide +kernel))))
  · exact r7_of1 (K := Kc606) (t := 0) hp (vc606 (d + 5)) (by decide +kernel) h8 hI ht ⟨⟨rfl, List.mem_singleton.mpr rfl⟩, trivial⟩ (fun v M' hv hL' h1 h2 => iV hv (fun x e => e ▸ h x M' hL' h1 (kpw h2 (by decide +kernel))))
  · exact r7_of1 (K := Kc736) (t := 0) hp (vc736 (d + 5)) (by decide +kernel) h8 hI ht ⟨⟨rfl, List.mem_singleton.mpr rfl⟩, trivial⟩ (fun v M' hv hL' h1 h2 => iV hv (fun x e => e ▸ h x M' hL' h1 (kpw h2 (by decide +kernel))))
  · exact r7_of1 (K := Kc867) (t := 0) hp (vc867 (d + 5)) (by decide +kernel) h8 hI ht ⟨⟨rfl, List.mem_singleton.mpr rfl⟩, trivial⟩ (fun v M' hv hL' h1 h2 => iV hv (fun x e => e ▸ h x M' hL' h1 (kpw h2 (by decide +kernel))))
  · exact r7_of1 (K := Kc1000) (t := 0) hp (vc1000 (d + 5)) (by decide +kernel) h8 hI ht ⟨⟨rfl, List.mem_singleton.mpr rfl⟩, trivial⟩ (fun v M' hv hL' h1 h2 => iV hv (fun x e => e ▸ h x M' hL' h1 (kpw h2 (by decide +kernel))))
  · exact r7_of1 (K := Kc1086) (t := 0) hp (vc1086 (d + 11)) (by decide +kernel) h8 hI ht ⟨⟨rfl, List.mem_singleton.mpr rfl⟩, trivial⟩ (fun v M' hv hL' h1 h2 => iV hv (fun x e => e ▸ h x M' hL' h1 (kpw h2 (by decide +kernel))))
def m7_fits : Md3 := [(150, 0, 0), (150, 11, 11), (150, 36, 38), (160, 0, 4), (161, 0, 24), (165, 0, 5), (166, 0, 3)]
theorem p7_fits (d : Nat) (hL : LI M) (h : ∀ (x : Int32) (M' : Mm), LI M' → M'.1 = M.1 → kp m7_fits M M' → kr (some (.int x)) M') : Ev l X uX7_fits (d + 12) true 0 0 [.ref 150] M kr := by
  obtain ⟨h8, ⟨p, hp, hI⟩, ht⟩ := hL
  rcases lt7 hp with rfl | rfl | rfl | rfl | rfl | rfl | rfl
  · exact r7_of1 (K := Kc350) (t := 0) hp (vc350 (d + 8)) (by decide +kernel) h8 hI ht ⟨⟨rfl, List.mem_singleton.mpr rfl⟩, trivial⟩ (fun v M' hv hL' h1 h2 => iV hv (fun x e => e ▸ h x M' hL' h1 (kpw h2 (by decide +kernel))))
  · exact r7_of1 (K := Kc479) (t := 0) hp (vc479 (d + 8)) (by decide +kernel) h8 hI ht ⟨⟨rfl, List.mem_singleton.mpr rfl⟩, trivial⟩ (fun v M' hv hL' h1 h2 => iV hv (fun x e => e ▸ h x M' hL' h1 (kpw h2 (by decide +kernel))))
  · exact r7_of1 (K := Kc609) (t := 0) hp (vc609 (d + 8)) (by decide +kernel) h8 hI ht ⟨⟨rfl, List.mem_singleton.mpr rfl⟩, trivial⟩ (fun v M' hv hL' h1 h2 => iV hv (fun x e => e ▸ h x M' hL' h1 (kpw h2 (by decide +kernel))))
  · exact r7_of1 (K := Kc739) (t := 0) hp (vc739 (d + 8)) (by decide +kernel) h8 hI ht ⟨⟨rfl, List.mem_singleton.mpr rfl⟩, trivial⟩ (fun v M' hv hL' h1 h2 => iV hv (fun x e => e ▸ h x M' hL' h1 (kpw h2 (by decide +kernel))))
  · exact r7_of1 (K := Kc870) (t := 0) hp (vc870 (d + 8)) (by decide +kernel) h8 hI ht ⟨⟨rfl, List.mem_singleton.mpr rfl⟩, trivial⟩ (fun v M' hv hL' h1 h2 => iV hv (fun x e => e ▸ h x M' hL' h1 (kpw h2 (by decide +kernel))))
  · exact r7_of1 (K := Kc1003) (t := 0) hp (vc1003 (d + 8)) (by decide +kernel) h8 hI ht ⟨⟨rfl, List.mem_singleton.mpr rfl⟩, trivial⟩ (fun v M' hv hL' h1 h2 => iV hv (fun x e => e ▸ h x M' hL' h1 (kpw h2 (by decide +kernel))))
  · exact r7_of1 (K := Kc1087) (t := 0) hp (vc1087 (d + 11)) (by decide +kernel) h8 hI ht ⟨⟨rfl, List.mem_singleton.mpr rfl⟩, trivial⟩ (fun v M' hv hL' h1 h2 => iV hv (fun x e => e ▸ h x M' hL' h1 (kpw h2 (by decide +kernel))))
def m7_fitAt : Md3 := [(150, 0, 0), (150, 11, 11), (150, 36, 38), (160, 0, 4), (161, 0, 24), (165, 0, 5), (166, 0, 3)]
theorem p7_fitAt (d : Nat) {x1 : Int32} (hL : LI M) (h : ∀ (x : Int32) (M' : Mm), LI M' → M'.1 = M.1 → kp m7_fitAt M M' → kr (some (.int x)) M') : Ev l X uX7_fitAt (d + 12) true 0 0 [.ref 150, .int x1] M kr := by
  obtain ⟨h8, ⟨p, hp, hI⟩, ht⟩ := hL
  rcases lt7 hp with rfl | rfl | rfl | rfl | rfl | rfl | rfl
  · exact r7_of1 (K := Kc351) (t := 0) hp (vc351 (d + 8)) (by decide +kernel) h8 hI ht ⟨⟨rfl, List.mem_singleton.mpr rfl⟩, ⟨⟨rfl, i32_lo _, i32_hi _⟩, trivial⟩⟩ (fun v M' hv hL' h1 h2 => iV hv (fun x e => e ▸ h x M' hL' h1 (kpw h2 (by decide +kernel))))
  · exact r7_of1 (K := Kc480) (t := 0) hp (vc480 (d + 8)) (by decide +kernel) h8 hI ht ⟨⟨rfl, List.mem_singleton.mpr rfl⟩, ⟨⟨rfl, i32_lo _, i32_hi _⟩, trivial⟩⟩ (fun v M' hv hL' h1 h2 => iV hv (fun x e => e ▸ h x M' hL' h1 (kpw h2 (by decide +kernel))))
  · exact r7_of1 (K := Kc610) (t := 0) hp (vc610 (d + 8)) (by decide +kernel) h8 hI ht ⟨⟨rfl, List.mem_singleton.mpr rfl⟩, ⟨⟨rfl, i32_lo _, i32_hi _⟩, trivial⟩⟩ (fun v M' hv hL' h1 h2 => iV hv (fun x e => e ▸ h x M' hL' h1 (kpw h2 (by decide +kernel))))
  · exact r7_of1 (K := Kc740) (t := 0) hp (vc740 (d + 8)) (by decide +kernel) h8 hI ht ⟨⟨rfl, List.mem_singleton.mpr rfl⟩, ⟨⟨rfl, i32_lo _, i32_hi _⟩, trivial⟩⟩ (fun v M' hv hL' h1 h2 => iV hv (fun x e => e ▸ h x M' hL' h1 (kpw h2 (by decide +kernel))))
  · exact r7_of1 (K := Kc871) (t := 0) hp (vc871 (d + 8)) (by decide +kernel) h8 hI ht ⟨⟨rfl, List.mem_singleton.mpr rfl⟩, ⟨⟨rfl, i32_lo _, i32_hi _⟩, trivial⟩⟩ (fun v M' hv hL' h1 h2 => iV hv (fun x e => e ▸ h x M' hL' h1 (kpw h2 (by decide +kernel))))
  · exact r7_of1 (K := Kc1004) (t := 0) hp (vc1004 (d + 8)) (by decide +kernel) h8 hI ht ⟨⟨rfl, List.mem_singleton.mpr rfl⟩, ⟨⟨rfl, i32_lo _, i32_hi _⟩, trivial⟩⟩ (fun v M' hv hL' h1 h2 => iV hv (fun x e => e ▸ h x M' hL' h1 (kpw h2 (by decide +kernel))))
  · exact r7_of1 (K := Kc1088) (t := 0) hp (vc1088 (d + 11)) (by decide +kernel) h8 hI ht ⟨⟨rfl, List.mem_singleton.mpr rfl⟩, ⟨⟨rfl, i32_lo _, i32_hi _⟩, trivial⟩⟩ (fun v M' hv hL' h1 h2 => iV hv (fun x e => e ▸ h x M' hL' h1 (kpw h2 (by decide +kernel))))
def m7_could : Md3 := [(150, 0, 0), (150, 11, 11), (150, 36, 38), (160, 0, 4), (161, 0, 24), (165, 0, 5), (166, 0, 3)]
theorem p7_could (d : Nat) (hL : LI M) (h : ∀ (x : Int32) (M' : Mm), LI M' → M'.1 = M.1 → kp m7_could M M' → kr (some (.int x)) M') : Ev l X uX7_could (d + 12) true 0 0 [.ref 150] M kr := by
  obtain ⟨h8, ⟨p, hp, hI⟩, ht⟩ := hL
  rcases lt7 hp with rfl | rfl | rfl | rfl | rfl | rfl | rfl
  · exact r7_of1 (K := Kc352) (t := 0) hp (vc352 (d + 8)) (by decide +kernel) h8 hI ht ⟨⟨rfl, List.mem_singleton.mpr rfl⟩, trivial⟩ (fun v M' hv hL' h1 h2 => iV hv (fun x e => e ▸ h x M' hL' h1 (kpw h2 (by decide +kernel))))
  · exact r7_of1 (K := Kc481) (t := 0) hp (vc481 (d + 8)) (by decide +kernel) h8 hI ht ⟨⟨rfl, List.mem_singleton.mpr rfl⟩, trivial⟩ (fun v M' hv hL' h1 h2 => iV hv (fun x e => e ▸ h x M' hL' h1 (kpw h2 (by decide +kernel))))
  · exact r7_of1 (K := Kc611) (t := 0) hp (vc611 (d + 8)) (by decide +kernel) h8 hI ht ⟨⟨rfl, List.mem_singleton.mpr rfl⟩, trivial⟩ (fun v M' hv hL' h1 h2 => iV hv (fun x e => e ▸ h x M' hL' h1 (kpw h2 (by decide +kernel))))
  · exact r7_of1 (K := Kc741) (t := 0) hp (vc741 (d + 8)) (by decide +kernel) h8 hI ht ⟨⟨rfl, List.mem_singleton.mpr rfl⟩, trivial⟩ (fun v M' hv hL' h1 h2 => iV hv (fun x e => e ▸ h x M' hL' h1 (kpw h2 (by decide +kernel))))
  · exact r7_of1 (K := Kc872) (t := 0) hp (vc872 (d + 8)) (by decide +kernel) h8 hI ht ⟨⟨rfl, List.mem_singleton.mpr rfl⟩, trivial⟩ (fun v M' hv hL' h1 h2 => iV hv (fun x e => e ▸ h x M' hL' h1 (kpw h2 (by decide +kernel))))
  · exact r7_of1 (K := Kc1005) (t := 0) hp (vc1005 (d + 8)) (by decide +kernel) h8 hI ht ⟨⟨rfl, List.mem_singleton.mpr rfl⟩, trivial⟩ (fun v M' hv hL' h1 h2 => iV hv (fun x e => e ▸ h x M' hL' h1 (kpw h2 (by decide +kernel))))
  · exact r7_of1 (K := Kc1089) (t := 0) hp (vc1089 (d + 11)) (by decide +kernel) h8 hI ht ⟨⟨rfl, List.mem_singleton.mpr rfl⟩, trivial⟩ (fun v M' hv hL' h1 h2 => iV hv (fun x e => e ▸ h x M' hL' h1 (kpw h2 (by decide +kernel))))
def m7_surely : Md3 := [(150, 0, 0), (150, 11, 11), (150, 36, 38), (160, 0, 4), (161, 0, 24), (165, 0, 5), (166, 0, 3)]
theorem p7_surely (d : Nat) (hL : LI M) (h : ∀ (x : Int32) (M' : Mm), LI M' → M'.1 = M.1 → kp m7_surely M M' → kr (some (.int x)) M') : Ev l X uX7_surely (d + 12) true 0 0 [.ref 150] M kr := by
  obtain ⟨h8, ⟨p, hp, hI⟩, ht⟩ := hL
  rcases lt7 hp with rfl | rfl | rfl | rfl | rfl | rfl | rfl
  · exact r7_of1 (K := Kc353) (t := 0) hp (vc353 (d + 8)) (by decide +kernel) h8 hI ht ⟨⟨rfl, List.mem_singleton.mpr rfl⟩, trivial⟩ (fun v M' hv hL' h1 h2 => iV hv (fun x e => e ▸ h x M' hL' h1 (kpw h2 (by decide +kernel))))
  · exact r7_of1 (K := Kc482) (t := 0) hp (vc482 (d + 8)) (by decide +kernel) h8 hI ht ⟨⟨rfl, List.mem_singleton.mpr rfl⟩, trivial⟩ (fun v M' hv hL' h1 h2 => iV hv (fun x e => e ▸ h x M' hL' h1 (kpw h2 (by decide +kernel))))
  · exact r7_of1 (K := Kc612) (t := 0) hp (vc612 (d + 8)) (by decide +kernel) h8 hI ht ⟨⟨rfl, List.mem_singleton.mpr rfl⟩, trivial⟩ (fun v M' hv hL' h1 h2 => iV hv (fun x e => e ▸ h x M' hL' h1 (kpw h2 (by decide +kernel))))
  · exact r7_of1 (K := Kc742) (t := 0) hp (vc742 (d + 8)) (by decide +kernel) h8 hI ht ⟨⟨rfl, List.mem_singleton.mpr rfl⟩, trivial⟩ (fun v M' hv hL' h1 h2 => iV hv (fun x e => e ▸ h x M' hL' h1 (kpw h2 (by decide +kernel))))
  · exact r7_of1 (K := Kc873) (t := 0) hp (vc873 (d + 8)) (by decide +kernel) h8 hI ht ⟨⟨rfl, List.mem_singleton.mpr rfl⟩, trivial⟩ (fun v M' hv hL' h1 h2 => iV hv (fun x e => e ▸ h x M' hL' h1 (kpw h2 (by decide +kernel))))
  · exact r7_of1 (K := Kc1006) (t := 0) hp (vc1006 (d + 8)) (by decide +kernel) h8 hI ht ⟨⟨rfl, List.mem_singleton.mpr rfl⟩, trivial⟩ (fun v M' hv hL' h1 h2 => iV hv (fun x e => e ▸ h x M' hL' h1 (kpw h2 (by decide +kernel))))
  · exact r7_of1 (K := Kc1090) (t := 0) hp (vc1090 (d + 11)) (by decide +kernel) h8 hI ht ⟨⟨rfl, List.mem_singleton.mpr rfl⟩, trivial⟩ (fun v M' hv hL' h1 h2 => iV hv (fun x e => e ▸ h x M' hL' h1 (kpw h2 (by decide +kernel))))
def m7_ask : Md3 := [(150, 0, 0), (150, 11, 11), (150, 36, 38), (160, 0, 4), (161, 0, 24), (165, 0, 5), (166, 0, 3)]
theorem p7_ask (d : Nat) (hL : LI M) (h : ∀ (x : Int32) (M' : Mm), LI M' → M'.1 = M.1 → kp m7_ask M M' → kr (some (.int x)) M') : Ev l X uX7_ask (d + 12) true 0 0 [.ref 150] M kr := by
  obtain ⟨h8, ⟨p, hp, hI⟩, ht⟩ := hL
  rcases lt7 hp with rfl | rfl | rfl | rfl | rfl | rfl | rfl
  · exact r7_of1 (K := Kc356) (t := 0) hp (vc356 (d + 7)) (by decide +kernel) h8 hI ht ⟨⟨rfl, List.mem_singleton.mpr rfl⟩, trivial⟩ (fun v M' hv hL' h1 h2 => iV hv (fun x e => e ▸ h x M' hL' h1 (kpw h2 (by decide +kernel))))
  · exact r7_of1 (K := Kc485) (t := 0) hp (vc485 (d + 7)) (by decide +kernel) h8 hI ht ⟨⟨rfl, List.mem_singleton.mpr rfl⟩, trivial⟩ (fun v M' hv hL' h1 h2 => iV hv (fun x e => e ▸ h x M' hL' h1 (kpw h2 (by decide +kernel))))
  · exact r7_of1 (K := Kc615) (t := 0) hp (vc615 (d + 7)) (by decide +kernel) h8 hI ht ⟨⟨rfl, List.mem_singleton.mpr rfl⟩, trivial⟩ (fun v M' hv hL' h1 h2 => iV hv (fun x e => e ▸ h x M' hL' h1 (kpw h2 (by decide +kernel))))
  · exact r7_of1 (K := Kc745) (t := 0) hp (vc745 (d + 7)) (by decide +kernel) h8 hI ht ⟨⟨rfl, List.mem_singleton.mpr rfl⟩, trivial⟩ (fun v M' hv hL' h1 h2 => iV hv (fun x e => e ▸ h x M' hL' h1 (kpw h2 (by decide +kernel))))
  · exact r7_of1 (K := Kc876) (t := 0) hp (vc876 (d + 7)) (by decide +kernel) h8 hI ht ⟨⟨rfl, List.mem_singleton.mpr rfl⟩, trivial⟩ (fun v M' hv hL' h1 h2 => iV hv (fun x e => e ▸ h x M' hL' h1 (kpw h2 (by decide +kernel))))
  · exact r7_of1 (K := Kc1009) (t := 0) hp (vc1009 (d + 7)) (by decide +kernel) h8 hI ht ⟨⟨rfl, List.mem_singleton.mpr rfl⟩, trivial⟩ (fun v M' hv hL' h1 h2 => iV hv (fun x e => e ▸ h x M' hL' h1 (kpw h2 (by decide +kernel))))
  · exact r7_of1 (K := Kc1091) (t := 0) hp (vc1091 (d + 11)) (by decide +kernel) h8 hI ht ⟨⟨rfl, List.mem_singleton.mpr rfl⟩, trivial⟩ (fun v M' hv hL' h1 h2 => iV hv (fun x e => e ▸ h x M' hL' h1 (kpw h2 (by decide +kernel))))
def m7_askLeaves : Md3 := [(150, 0, 0), (150, 11, 11), (150, 36, 38), (160, 0, 4), (161, 0, 24), (165, 0, 5), (166, 0, 3)]
theorem p7_askLeaves (d : Nat) (hL : LI M) (h : ∀ (x : Int32) (M' : Mm), LI M' → M'.1 = M.1 → kp m7_askLeaves M M' → kr (some (.int x)) M') : Ev l X uX7_askLeaves (d + 12) true 0 0 [.ref 150] M kr := by
  obtain ⟨h8, ⟨p, hp, hI⟩, ht⟩ := hL
  rcases lt7 hp with rfl | rfl | rfl | rfl | rfl | rfl | rfl
  · exact r7_of1 (K := Kc357) (t := 0) hp (vc357 (d + 7)) (by decide +kernel) h8 hI ht ⟨⟨rfl, List.mem_singleton.mpr rfl⟩, trivial⟩ (fun v M' hv hL' h1 h2 => iV hv (fun x e => e ▸ h x M' hL' h1 (kpw h2 (by decide +kernel))))
  · exact r7_of1 (K := Kc486) (t := 0) hp (vc486 (d + 7)) (by decide +kernel) h8 hI ht ⟨⟨rfl, List.mem_singleton.mpr rfl⟩, trivial⟩ (fun v M' hv hL' h1 h2 => iV hv (fun x e => e ▸ h x M' hL' h1 (kpw h2 (by decide +kernel))))
  · exact r7_of1 (K := Kc616) (t := 0) hp (vc616 (d + 7)) (by decide +kernel) h8 hI ht ⟨⟨rfl, List.mem_singleton.mpr rfl⟩, trivial⟩ (fun v M' hv hL' h1 h2 => iV hv (fun x e => e ▸ h x M' hL' h1 (kpw h2 (by decide +kernel))))
  · exact r7_of1 (K := Kc746) (t := 0) hp (vc746 (d + 7)) (by decide +kernel) h8 hI ht ⟨⟨rfl, List.mem_singleton.mpr rfl⟩, trivial⟩ (fun v M' hv hL' h1 h2 => iV hv (fun x e => e ▸ h x M' hL' h1 (kpw h2 (by decide +kernel))))
  · exact r7_of1 (K := Kc877) (t := 0) hp (vc877 (d + 7)) (by decide +kernel) h8 hI ht ⟨⟨rfl, List.mem_singleton.mpr rfl⟩, trivial⟩ (fun v M' hv hL' h1 h2 => iV hv (fun x e => e ▸ h x M' hL' h1 (kpw h2 (by decide +kernel))))
  · exact r7_of1 (K := Kc1010) (t := 0) hp (vc1010 (d + 7)) (by decide +kernel) h8 hI ht ⟨⟨rfl, List.mem_singleton.mpr rfl⟩, trivial⟩ (fun v M' hv hL' h1 h2 => iV hv (fun x e => e ▸ h x M' hL' h1 (kpw h2 (by decide +kernel))))
  · exact r7_of1 (K := Kc1092) (t := 0) hp (vc1092 (d + 11)) (by decide +kernel) h8 hI ht ⟨⟨rfl, List.mem_singleton.mpr rfl⟩, trivial⟩ (fun v M' hv hL' h1 h2 => iV hv (fun x e => e ▸ h x M' hL' h1 (kpw h2 (by decide +kernel))))
end PUB
