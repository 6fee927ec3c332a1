/-! the checker's run: n steps at most, up to the places where 'stop' speaks (a loop's head, told apart by the state there) -/
def run (stp : Nat → ASt → Option (List (Nat × ASt))) (stop : Nat → ASt → Option Bool) : Nat → Nat → ASt → Bool
  | 0, _, _ => false
  | n + 1, pc, A => match stp pc A with
    | some L => L.all (fun z => match stop z.1 z.2 with
      | some ok => ok
      | none => run stp stop n z.1 z.2)
    | none => false
theorem run_ok {l : Launch} {X : Nat × (Nat → Int32)} {q : Md} {d : Nat} {na : Bool} {b : Nat × Nat} {P : Pk} {tb : List (Nat × OP)} {kr : KR} {stp : Nat → ASt → Option (List (Nat × ASt))} {stop : Nat → ASt → Option Bool} {r0 : List Int} (ht : ∀ x ∈ tb, OK l X q d na b x.1 x.2)
    (hS : ∀ (pc : Nat) (A : ASt) (L : List (Nat × ASt)) (ls : Ls) (st : List Value) (M : Mm) (kn : KN), stp pc A = some L → Iv P M → gX r0 ls st A → (∀ z ∈ L, ∀ ls' st' M', Iv P M' → gX r0 ls' st' z.2 → kn z.1 ls' st' M') → lo tb pc kn kr ls st M)
    (hstop : ∀ (pc : Nat) (A : ASt), stop pc A = some true → ∀ ls st M, Iv P M → gX r0 ls st A → Wf l X q d na b pc ls st M kr) : ∀ (n pc : Nat) (A : ASt), run stp stop n pc A = true → ∀ ls st M, Iv P M → gX r0 ls st A → Wf l X q d na b pc ls st M kr
  | 0, _, _, h => by cases h
  | n + 1, pc, A, h => by
    intro ls st M hI hg
    unfold run at h
    cases hs : stp pc A with
    | none => rw [hs] at h; cases h
    | some L =>
      rw [hs] at h
      refine lo_ok ht pc (fun pc' ls' st' M' => Wf l X q d na b pc' ls' st' M' kr) kr ls st M (fun _ _ _ _ h' => h') ?_
      refine hS pc A L ls st M _ hs hI hg (fun z hz ls' st' M' hI' hg' => ?_)
      have hz2 := List.all_eq_true.mp h z hz
      cases hp : stop z.1 z.2 with
      | some ok =>
        rw [hp] at hz2
        have e : ok = true := hz2
        subst e
        exact hstop _ _ hp ls' st' M' hI' hg'
      | none =>
        rw [hp] at hz2
        exact run_ok ht hS hstop n z.1 z.2 hz2 ls' st' M' hI' hg'
