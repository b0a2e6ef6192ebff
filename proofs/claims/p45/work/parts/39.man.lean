/-! by hand: String.checkIndex -/
def f332_checkIndex (p0 p1 : Int32) (_ : mjZt) : Option Unit := if mjCmp .lt p0 0 = true then none else if mjCmp .lt p0 p1 = true then some () else none
theorem f333_ok {p0 p1 : Int32} {X : Value} {Z : mjZt} (hX : mjEnt [.int p0, .int p1, X] (mjML 176) = [some (.int p0), some (.int p1), some X]) (h1 : ¬ mjCmp .lt p0 0 = true) (h2 : mjCmp .lt p0 p1 = true) : pG 176 0 (mjEnt [.int p0, .int p1, X] (mjML 176)) [] (mjTo Z) (fun r M1 => r = some (.int p0) ∧ M1 = mjTo Z) := by
  rw [hX]
  refine pG_many 1 (pc1 := 1) (L1 := [some (.int p0), some (.int p1), some X]) (st1 := [.int p0]) (M1 := mjTo Z) (fun _ _ => rfl) ?_
  refine pG_iff (t := 9) rfl rfl h1 ?_
  refine pG_many 2 (pc1 := 6) (L1 := [some (.int p0), some (.int p1), some X]) (st1 := [.int p1, .int p0]) (M1 := mjTo Z) (fun _ _ => rfl) ?_
  refine pG_cmt (t := 16) rfl rfl h2 ?_
  refine pG_many 1 (pc1 := 17) (L1 := [some (.int p0), some (.int p1), some X]) (st1 := [.int p0]) (M1 := mjTo Z) (fun _ _ => rfl) ?_
  exact pG_ret (r := some (.int p0)) rfl ⟨rfl, rfl⟩
theorem f332_checkIndex_ok {p0 p1 : Int32} {Z : mjZt} {v9 : Unit} (h : f332_checkIndex p0 p1 Z = some v9) : pG 175 0 (mjEnt [.int p0, .int p1] (mjML 175)) [] (mjTo Z) (fun r M1 => r = none ∧ M1 = mjTo Z) := by
  unfold f332_checkIndex at h
  by_cases h1 : mjCmp .lt p0 0 = true
  · rw [if_pos h1] at h; cases h
  · rw [if_neg h1] at h
    by_cases h2 : mjCmp .lt p0 p1 = true
    · show pG 175 0 [some (.int p0), some (.int p1)] [] (mjTo Z) _
      refine pG_many 2 (pc1 := 2) (L1 := [some (.int p0), some (.int p1)]) (st1 := [.int p1, .int p0]) (M1 := mjTo Z) (fun _ _ => rfl) ?_
      by_cases hz : Z.1 2000001 1 = 0
      · refine pG_one (pc1 := 5) (L1 := [some (.int p0), some (.int p1)]) (st1 := [.null, .int p1, .int p0]) (M1 := mjTo Z) (fun _ _ => if_pos hz) ?_
        refine pG_call (k2 := 176) (As := [.int p0, .int p1, .null]) (rest := []) (fun _ _ => rfl) (by decide) (by decide) (f333_ok rfl h1 h2) ?_
        rintro r9 M9 ⟨rfl, rfl⟩
        refine pG_many 1 (pc1 := 9) (L1 := [some (.int p0), some (.int p1)]) (st1 := []) (M1 := mjTo Z) (fun _ _ => rfl) ?_
        exact pG_ret (r := none) rfl ⟨rfl, rfl⟩
      · refine pG_one (pc1 := 5) (L1 := [some (.int p0), some (.int p1)]) (st1 := [.ref 1200000, .int p1, .int p0]) (M1 := mjTo Z) (fun _ _ => if_neg hz) ?_
        refine pG_call (k2 := 176) (As := [.int p0, .int p1, .ref 1200000]) (rest := []) (fun _ _ => rfl) (by decide) (by decide) (f333_ok rfl h1 h2) ?_
        rintro r9 M9 ⟨rfl, rfl⟩
        refine pG_many 1 (pc1 := 9) (L1 := [some (.int p0), some (.int p1)]) (st1 := []) (M1 := mjTo Z) (fun _ _ => rfl) ?_
        exact pG_ret (r := none) rfl ⟨rfl, rfl⟩
    · rw [if_neg h2] at h; cases h
