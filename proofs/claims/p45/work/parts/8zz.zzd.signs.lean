/-! MACHINE: a run rests on the numbers of what it makes alone-/
theorem mjNwA_any {pc t w : Nat} {st : List Value} {a a2 : Nat} (h : mjNwA pc t w st a = none) : mjNwA pc t w st a2 = none := by
  unfold mjNwA at h ⊢
  cases st with
  | nil => rfl
  | cons v r =>
    cases v with
    | int x =>
      dsimp only at h ⊢
      split at h
      · cases h
      · rename_i q; rw [if_neg q]
    | _ => rfl
theorem mjNew_any {k : Nat} {i : Instr} {pc : Nat} {st : List Value} {a a2 : Nat} (h : mjNew k i pc st a = none) : mjNew k i pc st a2 = none := by
  cases i with
  | new ix =>
    unfold mjNew at h ⊢
    dsimp only at h ⊢
    cases e : mjNwF (mjCls k) ix with
    | none => rfl
    | some c => rw [e] at h; cases h
  | newarray t => cases t <;> first | exact mjNwA_any h | rfl
  | anewarray ix =>
    unfold mjNew at h ⊢
    dsimp only at h ⊢
    cases e : mjNaF (mjCls k) ix with
    | none => rfl
    | some t => rw [e] at h; exact mjNwA_any h
  | _ => rfl
theorem mjRun_sg {sg : Nat → Nat} : ∀ (f : Nat) {d k pc : Nat} {L : mjLs} {st : List Value} {n n1 : Nat × Nat} {M M1 : mjMem} {r : Option Value}, mjRun sg f d k pc L st n M = some (r, n1, M1) → n.1 ≤ n1.1 ∧ ∀ sg2 : Nat → Nat, (∀ j, n.1 ≤ j → j < n1.1 → sg2 j = sg j) → mjRun sg2 f d k pc L st n M = some (r, n1, M1)
  | 0, d, k, pc, L, st, n, n1, M, M1, r, h => by simp [mjRun] at h
  | f + 1, d, k, pc, L, st, n, n1, M, M1, r, h => by
    rw [mjRun] at h
    cases h1 : mjLook (mjCode k) pc with
    | none => rw [h1] at h; cases h
    | some q =>
      obtain ⟨i, len⟩ := q
      rw [h1] at h
      dsimp only at h
      by_cases h2 : mjLn i len = true
      · rw [if_pos h2] at h
        cases h3 : mjRet k i st with
        | some r9 =>
          rw [h3] at h
          have e := Option.some.inj h
          have e2 : n = n1 := congrArg (fun x => x.2.1) e
          refine ⟨by rw [e2]; exact Nat.le_refl _, fun sg2 _ => ?_⟩
          rw [mjRun, h1]
          dsimp only
          rw [if_pos h2, h3]
          exact h
        | none =>
          rw [h3] at h
          dsimp only at h
          cases h4 : mjStp k i pc L st M with
          | some q =>
            obtain ⟨q1, q2, q3, q4⟩ := q
            rw [h4] at h
            dsimp only at h
            obtain ⟨g1, g2⟩ := mjRun_sg f h
            refine ⟨g1, fun sg2 hs => ?_⟩
            rw [mjRun, h1]
            dsimp only
            rw [if_pos h2, h3]
            dsimp only
            rw [h4]
            exact g2 sg2 hs
          | none =>
            rw [h4] at h
            dsimp only at h
            cases h5 : mjNew k i pc st (sg n.1) with
            | some q =>
              obtain ⟨q1, q2, q3⟩ := q
              rw [h5] at h
              dsimp only at h
              by_cases hw : mjWr k (sg n.1) = true ∧ n.1 < 100000
              · rw [if_pos hw] at h
                obtain ⟨g1, g2⟩ := mjRun_sg f h
                have g1' : n.1 + 1 ≤ n1.1 := g1
                refine ⟨by omega, fun sg2 hs => ?_⟩
                have es := hs n.1 (Nat.le_refl _) (by omega)
                rw [mjRun, h1]
                dsimp only
                rw [if_pos h2, h3]
                dsimp only
                rw [h4]
                dsimp only
                rw [es, h5]
                dsimp only
                rw [if_pos hw]
                exact g2 sg2 (fun j j1 j2 => hs j (by have : n.1 + 1 ≤ j := j1; omega) j2)
              · rw [if_neg hw] at h; cases h
            | none =>
              rw [h5] at h
              dsimp only at h
              cases h6 : mjCall k i d st M with
              | none => rw [h6] at h; cases h
              | some q =>
                obtain ⟨k2, As, rest, w⟩ := q
                rw [h6] at h
                dsimp only at h
                have head : ∀ sg2 : Nat → Nat, mjRun sg2 (f + 1) d k pc L st n M = (if k2 = 999 then mjRun sg2 f d k (pc + 3) L rest n M
                  else if k2 = 1005 then (match mjCopy k As M with
                    | some M1 => mjRun sg2 f d k (pc + 3) L rest n M1
                    | none => none)
                  else if k2 = 1006 then (match mjCln k As M (sg2 n.1) with
                    | some (M1, z) => if n.1 < 100000 then mjRun sg2 f d k (pc + 3) L (.ref (sg2 n.1) :: rest) (n.1 + 1, n.2 + z) M1 else none
                    | none => none)
                  else if 1000 ≤ k2 then (match mjPrim k2 As with
                    | some (some v) => mjRun sg2 f d k (pc + 3) L (v :: rest) n M
                    | _ => none)
                  else match mjRun sg2 f (d - 1) k2 0 (mjEnt As (mjML k2)) [] n M with
                    | some (r, n1, M1) => mjRun sg2 f d k (pc + w) L (r.toList ++ rest) n1 M1
                    | none => none) := fun sg2 => by
                  rw [mjRun, h1]
                  dsimp only
                  rw [if_pos h2, h3]
                  dsimp only
                  rw [h4]
                  dsimp only
                  rw [mjNew_any h5]
                  dsimp only
                  rw [h6]
                  rfl
                by_cases h7 : k2 = 999
                · rw [if_pos h7] at h
                  obtain ⟨g1, g2⟩ := mjRun_sg f h
                  refine ⟨g1, fun sg2 hs => ?_⟩
                  rw [head, if_pos h7]
                  exact g2 sg2 hs
                · rw [if_neg h7] at h
                  by_cases h75 : k2 = 1005
                  · rw [if_pos h75] at h
                    cases hc : mjCopy k As M with
                    | none => rw [hc] at h; cases h
                    | some M9 =>
                      rw [hc] at h
                      dsimp only at h
                      obtain ⟨g1, g2⟩ := mjRun_sg f h
                      refine ⟨g1, fun sg2 hs => ?_⟩
                      rw [head, if_neg h7, if_pos h75, hc]
                      exact g2 sg2 hs
                  · rw [if_neg h75] at h
                    by_cases h76 : k2 = 1006
                    · rw [if_pos h76] at h
                      cases hc : mjCln k As M (sg n.1) with
                      | none => rw [hc] at h; cases h
                      | some q9 =>
                        obtain ⟨M9, z9⟩ := q9
                        rw [hc] at h
                        dsimp only at h
                        by_cases h77 : n.1 < 100000
                        · rw [if_pos h77] at h
                          obtain ⟨g1, g2⟩ := mjRun_sg f h
                          have g1' : n.1 + 1 ≤ n1.1 := g1
                          refine ⟨by omega, fun sg2 hs => ?_⟩
                          have es := hs n.1 (Nat.le_refl _) (by omega)
                          rw [head, if_neg h7, if_neg h75, if_pos h76, es, hc]
                          dsimp only
                          rw [if_pos h77]
                          exact g2 sg2 (fun j j1 j2 => hs j (by have : n.1 + 1 ≤ j := j1; omega) j2)
                        · rw [if_neg h77] at h; cases h
                    · rw [if_neg h76] at h
                      by_cases h8 : 1000 ≤ k2
                      · rw [if_pos h8] at h
                        cases hp : mjPrim k2 As with
                        | none => rw [hp] at h; cases h
                        | some o =>
                          cases o with
                          | none => rw [hp] at h; cases h
                          | some v =>
                            rw [hp] at h
                            dsimp only at h
                            obtain ⟨g1, g2⟩ := mjRun_sg f h
                            refine ⟨g1, fun sg2 hs => ?_⟩
                            rw [head, if_neg h7, if_neg h75, if_neg h76, if_pos h8, hp]
                            exact g2 sg2 hs
                      · rw [if_neg h8] at h
                        cases hr : mjRun sg f (d - 1) k2 0 (mjEnt As (mjML k2)) [] n M with
                        | none => rw [hr] at h; cases h
                        | some q9 =>
                          obtain ⟨r9, n9, M9⟩ := q9
                          rw [hr] at h
                          dsimp only at h
                          obtain ⟨g1, g2⟩ := mjRun_sg f hr
                          obtain ⟨g3, g4⟩ := mjRun_sg f h
                          refine ⟨by omega, fun sg2 hs => ?_⟩
                          rw [head, if_neg h7, if_neg h75, if_neg h76, if_neg h8, g2 sg2 (fun j j1 j2 => hs j j1 (by omega))]
                          exact g4 sg2 (fun j j1 j2 => hs j (by omega) j2)
      · rw [if_neg h2] at h; cases h
