/-! the class's readsLine -/
section RLN
variable {l : Launch} {X : Nat × (Nat → Int32)} {d : Nat} {w : Nat × Nat} {p r : Nat} {I : Nat → Nat → Int32} {L : Nat → Nat → Int64} {kr : KR} {b : Nat → Nat} {n e : Nat} {nm : List Nm} {F : Nat → Nat} {W : Int32}
set_option maxHeartbeats 2000000 in
set_option maxRecDepth 20000 in
theorem x_readsLine (hq : r = 7 ∨ r = 20) (hB : Bd F W nm) (hS : SC b n r (F, W, nm, e) I L) (hE : ∀ er, ln b n F W nm e = .inl er → ∀ I' L', sL r I I' L L' → I' 2 13 = nI er.1 → I' 2 14 = nI er.2 → kr (some (.int 0)) (mk w p r I' L')) (hO : ∀ P', ln b n F W nm e = .inr P' → ∀ I' L', sL r I I' L L' → SC b n r P' I' L' → kr (some (.int 1)) (mk w p r I' L')) : Ev l X uX4_readsLine (d + 10) true 0 0 [.ref 2] (mk w p r I L) kr := by
  obtain ⟨tx, he, hc, nc, pc⟩ := id hS
  have he : e ≤ n := he
  have hc : TC b n e I L := hc
  have pc : PC r F W I := pc
  obtain ⟨⟨B0, B1, B3, B4, B5, B6, B7⟩, BF, Bp, Bn, Bs, Bt⟩ := id hB
  have er : ∀ (k : Nat) (J : Nat → Nat → Int32), J = fl I k (tst b n e) → ln b n F W nm e = .inl (k, tst b n e) → kr (some (.int 0)) (mk w p r J L) := fun k J hJ hl => hE _ hl J L (by rw [hJ]; exact sL_fl) (by rw [hJ]; exact fl_13) (by rw [hJ]; exact fl_14)
  refine Ev.of (by decide) (Nat.le_of_ble_eq_true rfl) ?_
  unfold ln at hE hO er
  rcases hq with rfl | rfl
  · refine Wf.gc tkX4_readsLine [] ?_
    conv => whnf
    refine x_beginsLine (d := d + 3) tx he hc ?_
    conv => whnf
    refine ⟨fun z => ?_, fun z => ?_⟩
    · rw [if_neg (by rw [bI_t z]; decide)] at hE hO er
      conv => whnf
      refine x_isWord (wd := 5000) (d := d + 4) tx he hc (by decide) ?_
      conv => whnf
      refine ⟨fun z2 => ?_, fun z2 => ?_⟩
      · rw [if_neg (by rw [show isW b n 0 e = false from bI_f z2]; decide)] at hE hO er
        conv => whnf
        refine ⟨fun z3 => ?_, fun z3 => ?_⟩
        · have z3 : ¬ I 7 0 = 0 := z3
          rw [show I 7 0 = nI (F 0) from pc.1.1, show (0 : Int32) = nI 0 from rfl, nI_eq (by omega) (by decide)] at z3
          rw [if_neg z3] at hE hO
          have hT : 0 < F 0 := by omega
          conv => whnf
          refine x_isWord (wd := 5001) (d := d + 4) tx he hc (by decide) ?_
          conv => whnf
          refine ⟨fun z4 => ?_, fun z4 => ?_⟩
          · rw [if_neg (by rw [show isW b n 1 e = false from bI_f z4]; decide)] at hE hO
            conv => whnf
            refine x_isWord (wd := 5002) (d := d + 4) tx he hc (by decide) ?_
            conv => whnf
            refine ⟨fun z4 => ?_, fun z4 => ?_⟩
            · rw [if_neg (by rw [show isW b n 2 e = false from bI_f z4]; decide)] at hE hO
              conv => whnf
              refine x_isWord (wd := 5003) (d := d + 4) tx he hc (by decide) ?_
              conv => whnf
              refine ⟨fun z4 => ?_, fun z4 => ?_⟩
              · rw [if_neg (by rw [show isW b n 3 e = false from bI_f z4]; decide)] at hE hO
                conv => whnf
                refine x_isWord (wd := 5004) (d := d + 4) tx he hc (by decide) ?_
                conv => whnf
                refine ⟨fun z4 => ?_, fun z4 => ?_⟩
                · rw [if_neg (by rw [show isW b n 4 e = false from bI_f z4]; decide)] at hE hO
                  conv => whnf
                  refine x_isWord (wd := 5005) (d := d + 4) tx he hc (by decide) ?_
                  conv => whnf
                  refine ⟨fun z4 => ?_, fun z4 => ?_⟩
                  · rw [if_neg (by rw [show isW b n 5 e = false from bI_f z4]; decide)] at hE hO
                    conv => whnf
                    refine x_readsDropped (d := d) (Or.inl rfl) hB hT hS (fun er he I' L' h1 h2 h3 => ?_) (fun P' he I' L' h1 h2 => ?_)
                    · conv => whnf
                      exact ⟨Or.inl rfl, hE er he I' L' h1 h2 h3⟩
                    · conv => whnf
                      exact ⟨Or.inr rfl, hO P' he I' L' h1 h2⟩
                  · rw [if_pos (show isW b n 5 e = true from bI_t z4)] at hE hO
                    conv => whnf
                    refine x_readsUnsure (d := d) (Or.inl rfl) hB hT hS (fun er he I' L' h1 h2 h3 => ?_) (fun P' he I' L' h1 h2 => ?_)
                    · conv => whnf
                      exact ⟨Or.inl rfl, hE er he I' L' h1 h2 h3⟩
                    · conv => whnf
                      exact ⟨Or.inr rfl, hO P' he I' L' h1 h2⟩
                · rw [if_pos (show isW b n 4 e = true from bI_t z4)] at hE hO
                  conv => whnf
                  refine x_readsWalker (d := d) (Or.inl rfl) hB hT hS (fun er he I' L' h1 h2 h3 => ?_) (fun P' he I' L' h1 h2 => ?_)
                  · conv => whnf
                    exact ⟨Or.inl rfl, hE er he I' L' h1 h2 h3⟩
                  · conv => whnf
                    exact ⟨Or.inr rfl, hO P' he I' L' h1 h2⟩
              · rw [if_pos (show isW b n 3 e = true from bI_t z4)] at hE hO
                conv => whnf
                refine x_readsCanon (d := d) (Or.inl rfl) hB hT hS (fun er he I' L' h1 h2 h3 => ?_) (fun P' he I' L' h1 h2 => ?_)
                · conv => whnf
                  exact ⟨Or.inl rfl, hE er he I' L' h1 h2 h3⟩
                · conv => whnf
                  exact ⟨Or.inr rfl, hO P' he I' L' h1 h2⟩
            · rw [if_pos (show isW b n 2 e = true from bI_t z4)] at hE hO
              conv => whnf
              refine x_readsFace (d := d) (Or.inl rfl) hB hT hS (fun er he I' L' h1 h2 h3 => ?_) (fun P' he I' L' h1 h2 => ?_)
              · conv => whnf
                exact ⟨Or.inl rfl, hE er he I' L' h1 h2 h3⟩
              · conv => whnf
                exact ⟨Or.inr rfl, hO P' he I' L' h1 h2⟩
          · rw [if_pos (show isW b n 1 e = true from bI_t z4)] at hE hO
            conv => whnf
            refine x_readsWall (d := d + 1) (Or.inl rfl) hB hT hS (fun er he I' L' h1 h2 h3 => ?_) (fun P' he I' L' h1 h2 => ?_)
            · conv => whnf
              exact ⟨Or.inl rfl, hE er he I' L' h1 h2 h3⟩
            · conv => whnf
              exact ⟨Or.inr rfl, hO P' he I' L' h1 h2⟩
        · have z3 : I 7 0 = 0 := z3
          rw [show I 7 0 = nI (F 0) from pc.1.1, show (0 : Int32) = nI 0 from rfl, nI_eq (by omega) (by decide)] at z3
          rw [if_pos z3] at er
          conv => whnf
          refine x_fails hc ?_
          conv => whnf
          exact ⟨Or.inl rfl, er 6 _ rfl rfl⟩
      · rw [if_pos (show isW b n 0 e = true from bI_t z2)] at hE hO er
        conv => whnf
        refine ⟨fun z3 => ?_, fun z3 => ?_⟩
        · have z3 : I 7 0 ≤ 0 := z3
          rw [show I 7 0 = nI (F 0) from pc.1.1, show (0 : Int32) = nI 0 from rfl, nI_leI (by omega) (by decide)] at z3
          rw [if_neg (by omega)] at hE hO
          conv => whnf
          refine x_readsClose (d := d + 1) (Or.inl rfl) hB hS (fun er he I' L' h1 h2 h3 => ?_) (fun P' he I' L' h1 h2 => ?_)
          · conv => whnf
            exact ⟨Or.inl rfl, hE er he I' L' h1 h2 h3⟩
          · conv => whnf
            exact ⟨Or.inr rfl, hO P' he I' L' h1 h2⟩
        · have z3 : ¬ I 7 0 ≤ 0 := z3
          rw [show I 7 0 = nI (F 0) from pc.1.1, show (0 : Int32) = nI 0 from rfl, nI_leI (by omega) (by decide)] at z3
          rw [if_pos (by omega)] at er
          conv => whnf
          refine x_fails hc ?_
          conv => whnf
          exact ⟨Or.inl rfl, er 3 _ rfl rfl⟩
    · rw [if_pos (show bgl b n e = false from bI_f z)] at er
      conv => whnf
      refine x_fails hc ?_
      conv => whnf
      exact ⟨Or.inl rfl, er 1 _ rfl rfl⟩
  · refine Wf.gc tkX4_readsLine [] ?_
    conv => whnf
    refine x_beginsLine (d := d + 3) tx he hc ?_
    conv => whnf
    refine ⟨fun z => ?_, fun z => ?_⟩
    · rw [if_neg (by rw [bI_t z]; decide)] at hE hO er
      conv => whnf
      refine x_isWord (wd := 5000) (d := d + 4) tx he hc (by decide) ?_
      conv => whnf
      refine ⟨fun z2 => ?_, fun z2 => ?_⟩
      · rw [if_neg (by rw [show isW b n 0 e = false from bI_f z2]; decide)] at hE hO er
        conv => whnf
        refine ⟨fun z3 => ?_, fun z3 => ?_⟩
        · have z3 : ¬ I 20 0 = 0 := z3
          rw [show I 20 0 = nI (F 0) from pc.1.1, show (0 : Int32) = nI 0 from rfl, nI_eq (by omega) (by decide)] at z3
          rw [if_neg z3] at hE hO
          have hT : 0 < F 0 := by omega
          conv => whnf
          refine x_isWord (wd := 5001) (d := d + 4) tx he hc (by decide) ?_
          conv => whnf
          refine ⟨fun z4 => ?_, fun z4 => ?_⟩
          · rw [if_neg (by rw [show isW b n 1 e = false from bI_f z4]; decide)] at hE hO
            conv => whnf
            refine x_isWord (wd := 5002) (d := d + 4) tx he hc (by decide) ?_
            conv => whnf
            refine ⟨fun z4 => ?_, fun z4 => ?_⟩
            · rw [if_neg (by rw [show isW b n 2 e = false from bI_f z4]; decide)] at hE hO
              conv => whnf
              refine x_isWord (wd := 5003) (d := d + 4) tx he hc (by decide) ?_
              conv => whnf
              refine ⟨fun z4 => ?_, fun z4 => ?_⟩
              · rw [if_neg (by rw [show isW b n 3 e = false from bI_f z4]; decide)] at hE hO
                conv => whnf
                refine x_isWord (wd := 5004) (d := d + 4) tx he hc (by decide) ?_
                conv => whnf
                refine ⟨fun z4 => ?_, fun z4 => ?_⟩
                · rw [if_neg (by rw [show isW b n 4 e = false from bI_f z4]; decide)] at hE hO
                  conv => whnf
                  refine x_isWord (wd := 5005) (d := d + 4) tx he hc (by decide) ?_
                  conv => whnf
                  refine ⟨fun z4 => ?_, fun z4 => ?_⟩
                  · rw [if_neg (by rw [show isW b n 5 e = false from bI_f z4]; decide)] at hE hO
                    conv => whnf
                    refine x_readsDropped (d := d) (Or.inr rfl) hB hT hS (fun er he I' L' h1 h2 h3 => ?_) (fun P' he I' L' h1 h2 => ?_)
                    · conv => whnf
                      exact ⟨Or.inl rfl, hE er he I' L' h1 h2 h3⟩
                    · conv => whnf
                      exact ⟨Or.inr rfl, hO P' he I' L' h1 h2⟩
                  · rw [if_pos (show isW b n 5 e = true from bI_t z4)] at hE hO
                    conv => whnf
                    refine x_readsUnsure (d := d) (Or.inr rfl) hB hT hS (fun er he I' L' h1 h2 h3 => ?_) (fun P' he I' L' h1 h2 => ?_)
                    · conv => whnf
                      exact ⟨Or.inl rfl, hE er he I' L' h1 h2 h3⟩
                    · conv => whnf
                      exact ⟨Or.inr rfl, hO P' he I' L' h1 h2⟩
                · rw [if_pos (show isW b n 4 e = true from bI_t z4)] at hE hO
                  conv => whnf
                  refine x_readsWalker (d := d) (Or.inr rfl) hB hT hS (fun er he I' L' h1 h2 h3 => ?_) (fun P' he I' L' h1 h2 => ?_)
                  · conv => whnf
                    exact ⟨Or.inl rfl, hE er he I' L' h1 h2 h3⟩
                  · conv => whnf
                    exact ⟨Or.inr rfl, hO P' he I' L' h1 h2⟩
              · rw [if_pos (show isW b n 3 e = true from bI_t z4)] at hE hO
                conv => whnf
                refine x_readsCanon (d := d) (Or.inr rfl) hB hT hS (fun er he I' L' h1 h2 h3 => ?_) (fun P' he I' L' h1 h2 => ?_)
                · conv => whnf
                  exact ⟨Or.inl rfl, hE er he I' L' h1 h2 h3⟩
                · conv => whnf
                  exact ⟨Or.inr rfl, hO P' he I' L' h1 h2⟩
            · rw [if_pos (show isW b n 2 e = true from bI_t z4)] at hE hO
              conv => whnf
              refine x_readsFace (d := d) (Or.inr rfl) hB hT hS (fun er he I' L' h1 h2 h3 => ?_) (fun P' he I' L' h1 h2 => ?_)
              · conv => whnf
                exact ⟨Or.inl rfl, hE er he I' L' h1 h2 h3⟩
              · conv => whnf
                exact ⟨Or.inr rfl, hO P' he I' L' h1 h2⟩
          · rw [if_pos (show isW b n 1 e = true from bI_t z4)] at hE hO
            conv => whnf
            refine x_readsWall (d := d + 1) (Or.inr rfl) hB hT hS (fun er he I' L' h1 h2 h3 => ?_) (fun P' he I' L' h1 h2 => ?_)
            · conv => whnf
              exact ⟨Or.inl rfl, hE er he I' L' h1 h2 h3⟩
            · conv => whnf
              exact ⟨Or.inr rfl, hO P' he I' L' h1 h2⟩
        · have z3 : I 20 0 = 0 := z3
          rw [show I 20 0 = nI (F 0) from pc.1.1, show (0 : Int32) = nI 0 from rfl, nI_eq (by omega) (by decide)] at z3
          rw [if_pos z3] at er
          conv => whnf
          refine x_fails hc ?_
          conv => whnf
          exact ⟨Or.inl rfl, er 6 _ rfl rfl⟩
      · rw [if_pos (show isW b n 0 e = true from bI_t z2)] at hE hO er
        conv => whnf
        refine ⟨fun z3 => ?_, fun z3 => ?_⟩
        · have z3 : I 20 0 ≤ 0 := z3
          rw [show I 20 0 = nI (F 0) from pc.1.1, show (0 : Int32) = nI 0 from rfl, nI_leI (by omega) (by decide)] at z3
          rw [if_neg (by omega)] at hE hO
          conv => whnf
          refine x_readsClose (d := d + 1) (Or.inr rfl) hB hS (fun er he I' L' h1 h2 h3 => ?_) (fun P' he I' L' h1 h2 => ?_)
          · conv => whnf
            exact ⟨Or.inl rfl, hE er he I' L' h1 h2 h3⟩
          · conv => whnf
            exact ⟨Or.inr rfl, hO P' he I' L' h1 h2⟩
        · have z3 : ¬ I 20 0 ≤ 0 := z3
          rw [show I 20 0 = nI (F 0) from pc.1.1, show (0 : Int32) = nI 0 from rfl, nI_leI (by omega) (by decide)] at z3
          rw [if_pos (by omega)] at er
          conv => whnf
          refine x_fails hc ?_
          conv => whnf
          exact ⟨Or.inl rfl, er 3 _ rfl rfl⟩
    · rw [if_pos (show bgl b n e = false from bI_f z)] at er
      conv => whnf
      refine x_fails hc ?_
      conv => whnf
      exact ⟨Or.inl rfl, er 1 _ rfl rfl⟩
end RLN
