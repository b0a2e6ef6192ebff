/-! THE PURE LAYER: what a method comes to, as a predicate of its end; from here on no machine is spoken of -/
theorem mjRun_mono : ∀ (f : Nat) {g k pc : Nat} {L : mjLs} {st : List Value} {n : Nat} {M : mjMem} {x : Option Value × Nat × mjMem}, mjRun f k pc L st n M = some x → f ≤ g → mjRun g k pc L st n M = some x
  | 0, g, k, pc, L, st, n, M, x, h, _ => by simp [mjRun] at h
  | f + 1, 0, k, pc, L, st, n, M, x, h, hg => by omega
  | f + 1, g + 1, k, pc, L, st, n, M, x, h, hg => by
    have hfg : f ≤ g := by omega
    rw [mjRun] at h ⊢
    cases h1 : mjLook (mjCode k) pc with
    | none => rw [h1] at h; cases h
    | some q =>
      obtain ⟨i, len⟩ := q
      rw [h1] at h
      dsimp only at h ⊢
      by_cases h2 : mjLn i len = true
      · rw [if_pos h2] at h ⊢
        cases h3 : mjRet k i st with
        | some r => rw [h3] at h; exact h
        | none =>
          rw [h3] at h
          dsimp only at h ⊢
          cases h4 : mjStp k i pc n L st M with
          | some q => rw [h4] at h; exact mjRun_mono f h hfg
          | none =>
            rw [h4] at h
            dsimp only at h ⊢
            cases h5 : mjNew k i pc n L st M with
            | some q => rw [h5] at h; exact mjRun_mono f h hfg
            | none =>
              rw [h5] at h
              dsimp only at h ⊢
              cases h6 : mjCall k i n st with
              | none => rw [h6] at h; cases h
              | some q =>
                obtain ⟨k2, As, rest⟩ := q
                rw [h6] at h
                dsimp only at h ⊢
                by_cases h7 : k2 = 999
                · rw [if_pos h7] at h ⊢; exact mjRun_mono f h hfg
                · rw [if_neg h7] at h ⊢
                  by_cases h8 : 1000 ≤ k2
                  · rw [if_pos h8] at h ⊢
                    split at h
                    · exact mjRun_mono f h hfg
                    · cases h
                  · rw [if_neg h8] at h ⊢
                    cases h9 : mjRun f k2 0 (mjEnt As (mjML k2)) [] n M with
                    | none => rw [h9] at h; cases h
                    | some w =>
                      rw [h9] at h
                      rw [mjRun_mono f h9 hfg]
                      exact mjRun_mono f h hfg
      · rw [if_neg h2] at h; cases h
def pG (k pc : Nat) (L : mjLs) (st : List Value) (M : mjMem) (F : Option Value → mjMem → Prop) : Prop := ∃ (fuel : Nat) (r : Option Value) (M1 : mjMem), mjRun fuel k pc L st 251 M = some (r, 251, M1) ∧ F r M1
section PU
variable {k pc pc1 k2 : Nat} {L L1 : mjLs} {st st1 As rest : List Value} {M M1 : mjMem} {F F2 : Option Value → mjMem → Prop} {r : Option Value}
theorem pG.mono (h : pG k pc L st M F) (g : ∀ r M1, F r M1 → F2 r M1) : pG k pc L st M F2 := by
  obtain ⟨f, r, M1, h1, h2⟩ := h
  exact ⟨f, r, M1, h1, g r M1 h2⟩
def mjOne1 (k pc : Nat) (L : mjLs) (st : List Value) (M : mjMem) : mjO := match mjLook (mjCode k) pc with
  | some (i, len) => if mjLn i len = true then (match mjRet k i st with
    | some _ => none
    | none => mjStp k i pc 251 L st M) else none
  | none => none
def mjMany : Nat → Nat → Nat → mjLs → List Value → mjMem → mjO
  | 0, _, pc, L, st, M => some (pc, L, st, M)
  | m + 1, k, pc, L, st, M => match mjOne1 k pc L st M with
    | some (pc1, L1, st1, M1) => mjMany m k pc1 L1 st1 M1
    | none => none
theorem pG_one (h : mjOne1 k pc L st M = some (pc1, L1, st1, M1)) (g : pG k pc1 L1 st1 M1 F) : pG k pc L st M F := by
  obtain ⟨f, r, M2, h1, h2⟩ := g
  refine ⟨f + 1, r, M2, ?_, h2⟩
  unfold mjOne1 at h
  rw [mjRun]
  split at h
  · rename_i i len hl
    rw [hl]
    dsimp only
    split at h
    · rename_i hln
      rw [if_pos hln]
      split at h
      · cases h
      · rename_i hr
        rw [hr]
        dsimp only
        rw [h]
        exact h1
    · cases h
  · cases h
theorem pG_many : ∀ (m : Nat) {k pc pc1 : Nat} {L L1 : mjLs} {st st1 : List Value} {M M1 : mjMem}, mjMany m k pc L st M = some (pc1, L1, st1, M1) → pG k pc1 L1 st1 M1 F → pG k pc L st M F
  | 0, k, pc, pc1, L, L1, st, st1, M, M1, h, g => by
    simp only [mjMany, Option.some.injEq, Prod.mk.injEq] at h
    obtain ⟨rfl, rfl, rfl, rfl⟩ := h
    exact g
  | m + 1, k, pc, pc1, L, L1, st, st1, M, M1, h, g => by
    rw [mjMany] at h
    split at h
    · rename_i h1
      exact pG_one h1 (pG_many m h g)
    · cases h
def mjRt1 (k pc : Nat) (st : List Value) : Option (Option Value) := match mjLook (mjCode k) pc with
  | some (i, len) => if mjLn i len = true then mjRet k i st else none
  | none => none
theorem pG_ret (h : mjRt1 k pc st = some r) (g : F r M) : pG k pc L st M F := by
  refine ⟨1, r, M, ?_, g⟩
  unfold mjRt1 at h
  rw [mjRun]
  split at h
  · rename_i i len hl
    rw [hl]
    dsimp only
    split at h
    · rename_i hln
      rw [if_pos hln, h]
    · cases h
  · cases h
def mjCl1 (k pc : Nat) (st : List Value) : Option (Nat × List Value × List Value) := match mjLook (mjCode k) pc with
  | some (.invokevirtual ix, len) => if mjLn (.invokevirtual ix) len = true then mjCall k (.invokevirtual ix) 251 st else none
  | some (.invokestatic ix, len) => if mjLn (.invokestatic ix) len = true then mjCall k (.invokestatic ix) 251 st else none
  | some (.invokespecial ix, len) => if mjLn (.invokespecial ix) len = true then mjCall k (.invokespecial ix) 251 st else none
  | _ => none
theorem mjCl1_run (f : Nat) (h : mjCl1 k pc st = some (k2, As, rest)) : mjRun (f + 1) k pc L st 251 M = (if k2 = 999 then mjRun f k (pc + 3) L rest 251 M
              else if 1000 ≤ k2 then (match mjPrim k2 As with
                | some (some v) => mjRun f k (pc + 3) L (v :: rest) 251 M
                | _ => none)
              else match mjRun f k2 0 (mjEnt As (mjML k2)) [] 251 M with
                | some (r, n1, M1) => mjRun f k (pc + 3) L (r.toList ++ rest) n1 M1
                | none => none) := by
  unfold mjCl1 at h
  rw [mjRun]
  split at h
  · rename_i ix len hl
    split at h
    · rename_i hln
      rw [hl]
      dsimp only
      rw [if_pos hln]
      show (match mjCall k (.invokevirtual ix) 251 st with | none => none | some (k2, As, rest) => _) = _
      rw [h]
      rfl
    · cases h
  · rename_i ix len hl
    split at h
    · rename_i hln
      rw [hl]
      dsimp only
      rw [if_pos hln]
      show (match mjCall k (.invokestatic ix) 251 st with | none => none | some (k2, As, rest) => _) = _
      rw [h]
      rfl
    · cases h
  · rename_i ix len hl
    split at h
    · rename_i hln
      rw [hl]
      dsimp only
      rw [if_pos hln]
      show (match mjCall k (.invokespecial ix) 251 st with | none => none | some (k2, As, rest) => _) = _
      rw [h]
      rfl
    · cases h
  · cases h
theorem pG_call (h : mjCl1 k pc st = some (k2, As, rest)) (hk : k2 < 999) (g : pG k2 0 (mjEnt As (mjML k2)) [] M F2) (c : ∀ r M1, F2 r M1 → pG k (pc + 3) L (r.toList ++ rest) M1 F) : pG k pc L st M F := by
  obtain ⟨f, r, M1, h1, h2⟩ := g
  obtain ⟨f2, r2, M2, h3, h4⟩ := c r M1 h2
  refine ⟨(f + f2) + 1, r2, M2, ?_, h4⟩
  rw [mjCl1_run (f + f2) h, if_neg (by omega), if_neg (by omega), mjRun_mono f h1 (by omega)]
  exact mjRun_mono f2 h3 (by omega)
theorem pG_prim {v : Value} (h : mjCl1 k pc st = some (k2, As, rest)) (hk : 1000 ≤ k2) (hp : mjPrim k2 As = some (some v)) (c : pG k (pc + 3) L (v :: rest) M F) : pG k pc L st M F := by
  obtain ⟨f2, r2, M2, h3, h4⟩ := c
  refine ⟨f2 + 1, r2, M2, ?_, h4⟩
  rw [mjCl1_run f2 h, if_neg (by omega), if_pos hk, hp]
  exact h3
end PU
