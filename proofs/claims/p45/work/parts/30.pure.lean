/-! THE PURE LAYER: the class's objects at fixed numbers, 0 .. 210; what a method of the class comes to, as a predicate of its end. The numbers 211 .. 250 are no object's: what the state says there, the machine doesn't see -/
def mjRkL : List Nat := [1, 1, 1, 1, 1, 1, 1, 1, 2, 1, 3, 1, 1, 2, 2, 3, 1, 1, 1, 3, 2, 1, 2, 3, 3, 3, 4, 3, 2, 1, 1, 1, 2, 1, 2, 3, 1, 1, 2, 2, 3, 2, 2, 3, 4, 1, 1, 1, 1, 2, 5, 6, 7, 1, 7, 1, 2, 7, 1, 3, 3, 4, 7, 1, 1, 2, 1, 2, 5, 8, 1, 2, 3, 4, 5, 1, 2, 2, 2, 2, 2, 1, 2, 3, 4, 2, 3, 4, 1, 5, 6, 3, 5, 6, 7, 1, 2, 3, 4, 2, 2, 1, 2, 6, 1, 7, 6, 6, 8, 7, 8, 8, 2, 9, 9, 9, 7, 7, 10, 2, 1, 1, 2, 2, 3, 6, 3, 2, 5, 2, 2, 3, 3, 3, 3, 1, 2, 1, 7, 11, 1, 4, 4, 1, 4, 3, 5, 4, 4, 2, 4, 4, 6, 7, 3, 4, 4, 6, 1, 4, 3, 8, 8, 8, 8, 8, 1, 1, 1, 1, 2, 1, 4, 1, 3, 2, 1, 3, 4, 2, 1, 1, 1, 1, 1, 2, 3, 1, 0, 0, 0, 0, 0, 0, 1, 3, 2, 0, 5, 5, 6, 9, 1, 7, 4, 4, 4, 7, 4, 3, 1, 1, 1, 2, 2, 1, 1, 2, 3, 2, 1, 1, 1, 1, 4, 5, 2, 2, 8, 5, 5, 8, 6, 5, 2, 6, 1, 1, 2, 3, 5, 4, 5, 1, 3, 3, 2, 4, 3, 1, 1, 1, 3, 2, 2, 1, 0]
def mjRk (k : Nat) : Nat := mjRkL.getD k 0
def mjLayL : List (Nat × Nat) := [(11, 0), (13, 700), (2, 0), (8, 0), (13, 700), (13, 700), (13, 700), (13, 16), (13, 16), (13, 16), (16, 6), (17, 42), (14, 8), (13, 8), (7, 0), (13, 7), (13, 7), (13, 7), (13, 7), (0, 0), (7, 0), (13, 7), (13, 7), (13, 7), (13, 7), (7, 0), (13, 7), (13, 7), (13, 7), (13, 7), (7, 0), (13, 7), (13, 7), (13, 7), (13, 7), (7, 0), (13, 7), (13, 7), (13, 7), (13, 7), (7, 0), (13, 7), (13, 7), (13, 7), (13, 7), (7, 0), (13, 7), (13, 7), (13, 7), (13, 7), (0, 0), (0, 0), (0, 0), (0, 0), (0, 0), (0, 0), (0, 0), (0, 0), (0, 0), (0, 0), (0, 0), (0, 0), (0, 0), (0, 0), (0, 0), (0, 0), (0, 0), (0, 0), (0, 0), (0, 0), (0, 0), (0, 0), (0, 0), (0, 0), (0, 0), (0, 0), (0, 0), (0, 0), (0, 0), (0, 0), (0, 0), (0, 0), (0, 0), (0, 0), (0, 0), (0, 0), (0, 0), (0, 0), (0, 0), (0, 0), (0, 0), (0, 0), (2, 0), (8, 0), (13, 700), (13, 700), (13, 700), (13, 16), (13, 16), (13, 16), (16, 6), (17, 42), (14, 8), (13, 8), (7, 0), (13, 7), (13, 7), (13, 7), (13, 7), (0, 0), (7, 0), (13, 7), (13, 7), (13, 7), (13, 7), (7, 0), (13, 7), (13, 7), (13, 7), (13, 7), (7, 0), (13, 7), (13, 7), (13, 7), (13, 7), (7, 0), (13, 7), (13, 7), (13, 7), (13, 7), (7, 0), (13, 7), (13, 7), (13, 7), (13, 7), (7, 0), (13, 7), (13, 7), (13, 7), (13, 7), (0, 0), (0, 0), (0, 0), (0, 0), (0, 0), (0, 0), (0, 0), (0, 0), (0, 0), (0, 0), (0, 0), (0, 0), (0, 0), (0, 0), (0, 0), (0, 0), (0, 0), (0, 0), (0, 0), (0, 0), (0, 0), (0, 0), (0, 0), (0, 0), (0, 0), (0, 0), (0, 0), (0, 0), (0, 0), (0, 0), (0, 0), (0, 0), (0, 0), (0, 0), (0, 0), (0, 0), (0, 0), (0, 0), (0, 0), (0, 0), (0, 0), (0, 0), (6, 0), (9, 0), (13, 0), (3, 0), (13, 64), (13, 64), (5, 0), (13, 6), (4, 0), (13, 11), (14, 700), (13, 700), (15, 700), (14, 42), (14, 42), (14, 168), (14, 168), (10, 0), (13, 42), (13, 6), (13, 6), (13, 6), (10, 0), (13, 42), (13, 6), (13, 6), (13, 6), (1, 0), (13, 50), (12, 0), (13, 700), (14, 5), (14, 11), (13, 1500), (13, 1500), (13, 800), (13, 5), (13, 6), (13, 6), (13, 108), (13, 12), (13, 12), (13, 12), (13, 8), (13, 32), (14, 6), (14, 8), (13, 5), (13, 6), (13, 6), (13, 12), (13, 12), (13, 12), (13, 8), (13, 32), (14, 6), (14, 8), (13, 108), (13, 1080), (13, 6), (15, 6), (14, 800), (14, 800), (14, 800), (14, 800), (15, 48), (15, 6), (15, 6), (13, 6)]
def mjLay (i : Nat) : Nat × Nat := mjLayL.getD i (99, 0)
def mjIs (a n c : Nat) : Bool := decide (a < n) && (mjLay a).1 == c
theorem mjIs_spec {a n c : Nat} (h : mjIs a n c = true) : a < n ∧ (mjLay a).1 = c := by
  simpa [mjIs] using h
theorem mjRun_mono {sg : Nat → Nat} : ∀ (f : Nat) {g d d2 k pc : Nat} {L : mjLs} {st : List Value} {n : Nat × Nat} {M : mjMem} {x : Option Value × (Nat × Nat) × mjMem}, mjRun sg f d k pc L st n M = some x → f ≤ g → d ≤ d2 → mjRun sg g d2 k pc L st n M = some x
  | 0, g, d, d2, k, pc, L, st, n, M, x, h, _, _ => by simp [mjRun] at h
  | f + 1, 0, d, d2, k, pc, L, st, n, M, x, h, hg, _ => by omega
  | f + 1, g + 1, d, d2, k, pc, L, st, n, M, x, h, hg, hd => by
    have hfg : f ≤ g := by omega
    rw [mjRun] at h ⊢
    cases h1 : mjLook (mjCode k) pc with
    | none => rw [h1] at h; cases h
    | some q =>
      obtain ⟨i, len⟩ := q
      rw [h1] at h
      dsimp only at h ⊢
      by_cases h2 : mjLn i len = true
      · rw [if_pos h2] at h ⊢
        cases h3 : mjRet k i st with
        | some r => rw [h3] at h; exact h
        | none =>
          rw [h3] at h
          dsimp only at h ⊢
          cases h4 : mjStp k i pc L st M with
          | some q => rw [h4] at h; exact mjRun_mono f h hfg hd
          | none =>
            rw [h4] at h
            dsimp only at h ⊢
            cases h5 : mjNew k i pc st (sg n.1) with
            | some q =>
              obtain ⟨q1, q2, q3⟩ := q
              rw [h5] at h
              dsimp only at h ⊢
              by_cases hw : mjWr k (sg n.1) = true ∧ n.1 < 100000
              · rw [if_pos hw] at h ⊢
                exact mjRun_mono f h hfg hd
              · rw [if_neg hw] at h; cases h
            | none =>
              rw [h5] at h
              dsimp only at h ⊢
              cases h6 : mjCall k i d st M with
              | none => rw [h6] at h; cases h
              | some q =>
                obtain ⟨k2, As, rest, w⟩ := q
                have h6' : mjCall k i d2 st M = some (k2, As, rest, w) := by
                  unfold mjCall at h6 ⊢
                  split at h6
                  · cases h6
                  · rename_i op ix w0 hcv
                    split at h6
                    · cases h6
                    · rename_i k3 md C hl
                      split at h6
                      · rename_i hq
                        have hq2 : mjOpMd op md = true ∧ mjCallQ k k3 md C d2 M (st.take (mjNp k3 md)).reverse (st.drop (mjNp k3 md)) = true := by
                          refine ⟨hq.1, ?_⟩
                          have hq1 := hq.2
                          unfold mjCallQ at hq1 ⊢
                          rw [Bool.and_eq_true] at hq1 ⊢
                          refine ⟨?_, hq1.2⟩
                          have := of_decide_eq_true hq1.1
                          exact decide_eq_true (by omega)
                        rw [if_pos hq2]
                        exact h6
                      · cases h6
                rw [h6] at h
                rw [h6']
                dsimp only at h ⊢
                by_cases h7 : k2 = 999
                · rw [if_pos h7] at h ⊢; exact mjRun_mono f h hfg hd
                · rw [if_neg h7] at h ⊢
                  by_cases h75 : k2 = 1005
                  · rw [if_pos h75] at h ⊢
                    cases hc : mjCopy k As M with
                    | none => rw [hc] at h; cases h
                    | some M1 => rw [hc] at h; exact mjRun_mono f h hfg hd
                  · rw [if_neg h75] at h ⊢
                    by_cases h76 : k2 = 1006
                    · rw [if_pos h76] at h ⊢
                      cases hc : mjCln k As M (sg n.1) with
                      | none => rw [hc] at h; cases h
                      | some q9 =>
                        rw [hc] at h
                        dsimp only at h ⊢
                        by_cases h77 : n.1 < 100000
                        · rw [if_pos h77] at h ⊢; exact mjRun_mono f h hfg hd
                        · rw [if_neg h77] at h; cases h
                    rw [if_neg h76] at h ⊢
                    by_cases h8 : 1000 ≤ k2
                    · rw [if_pos h8] at h ⊢
                      split at h
                      · exact mjRun_mono f h hfg hd
                      · cases h
                    · rw [if_neg h8] at h ⊢
                      cases h9 : mjRun sg f (d - 1) k2 0 (mjEnt As (mjML k2)) [] n M with
                      | none => rw [h9] at h; cases h
                      | some w =>
                        rw [h9] at h
                        rw [mjRun_mono f h9 hfg (show d - 1 ≤ d2 - 1 by omega)]
                        exact mjRun_mono f h hfg hd
      · rw [if_neg h2] at h; cases h
/-! the state of the class: ints, longs, which book is told, which text the reader has -/
def mjR0L : List (Nat × List (Nat × Nat)) := [(0, [(0, 1), (4, 182), (5, 188), (6, 190), (7, 199), (8, 204), (9, 209)]), (2, [(12, 3), (13, 10), (14, 11), (15, 12), (16, 13), (17, 14), (18, 19)]), (3, [(0, 4), (1, 5), (2, 6), (3, 7), (4, 8), (5, 9)]), (14, [(0, 15), (1, 16), (2, 17), (3, 18)]), (20, [(0, 21), (1, 22), (2, 23), (3, 24)]), (25, [(0, 26), (1, 27), (2, 28), (3, 29)]), (30, [(0, 31), (1, 32), (2, 33), (3, 34)]), (35, [(0, 36), (1, 37), (2, 38), (3, 39)]), (40, [(0, 41), (1, 42), (2, 43), (3, 44)]), (45, [(0, 46), (1, 47), (2, 48), (3, 49)]), (92, [(12, 93), (13, 100), (14, 101), (15, 102), (16, 103), (17, 104), (18, 109)]), (93, [(0, 94), (1, 95), (2, 96), (3, 97), (4, 98), (5, 99)]), (104, [(0, 105), (1, 106), (2, 107), (3, 108)]), (110, [(0, 111), (1, 112), (2, 113), (3, 114)]), (115, [(0, 116), (1, 117), (2, 118), (3, 119)]), (120, [(0, 121), (1, 122), (2, 123), (3, 124)]), (125, [(0, 126), (1, 127), (2, 128), (3, 129)]), (130, [(0, 131), (1, 132), (2, 133), (3, 134)]), (135, [(0, 136), (1, 137), (2, 138), (3, 139)]), (182, [(0, 183), (1, 185)]), (185, [(4, 186), (5, 187)]), (188, [(0, 189)]), (190, [(0, 191), (1, 192), (2, 193), (3, 194), (4, 195), (5, 196), (6, 197), (7, 198)]), (199, [(0, 200), (1, 201), (2, 202), (3, 203)]), (204, [(0, 205), (1, 206), (2, 207), (3, 208)]), (209, [(0, 210)]), (211, [(0, 212), (2, 213), (3, 214), (14, 215), (15, 216), (16, 217), (28, 218), (29, 219), (30, 220), (31, 221), (32, 222), (33, 223), (34, 224), (35, 225), (36, 226), (37, 227), (38, 228), (44, 229), (45, 230), (46, 231), (47, 232), (48, 233), (49, 234), (50, 235), (51, 236), (52, 237), (53, 238), (54, 239), (55, 240), (57, 241), (58, 242), (61, 243), (62, 244), (63, 245), (64, 246), (68, 247), (69, 248), (70, 249), (71, 250)])]
abbrev mjZt : Type := (Nat → Nat → Int32) × (Nat → Nat → Int64) × Nat × Nat
def mjR0 (a k : Nat) : Option Nat := match mjR0L.find? (fun q => q.1 == a) with
  | some q => (match q.2.find? (fun w => w.1 == k) with
    | some w => some w.2
    | none => none)
  | none => none
/-- references: fixed, but for the two books of the class and the reader's text -/
def mjRv (told text : Nat) (a k : Nat) : Option Nat := if a = 0 then (if k = 2 then some told else if k = 3 then some (94 - told) else mjR0 a k) else if a = 183 then (if k = 0 then some text else mjR0 a k) else if a = 10 ∨ a = 100 then (if k < 6 then some (a + 10 + 5 * k) else none) else if a = 11 ∨ a = 101 then (if k < 42 then some (a + 39 + k) else none) else mjR0 a k
def mjTo (Z : mjZt) : mjZt := (Z.1, Z.2)
theorem mjTo_eq (Z : mjZt) : mjTo Z = Z := rfl
/-- the rest of the world: references and kinds of the objects from 211 on -/
abbrev mjWt : Type := (Nat → Nat → Option Nat) × (Nat → Nat × Nat)
def mjKc (q : Nat × Nat) : Nat × Nat := (if q.1 < 12 then q.1 else q.1 + 100, q.2)
def mjVw (W : mjWt) (Z : mjZt) : mjMem := (fun a => if 211 ≤ a ∧ a < 251 then (fun _ => 0) else Z.1 a, fun a => if 211 ≤ a ∧ a < 251 then (fun _ => 0) else Z.2.1 a, fun a k => if a < 211 then mjRv Z.2.2.1 Z.2.2.2 a k else W.1 a k, fun a => if a < 211 then mjKc (mjLay a) else W.2 a)
/-- what was there before the law began is no object of ours -/
def mjWok (W : mjWt) : Prop := ∀ a, 1000000 ≤ a → (W.2 a).1 = 99
def pG (k pc : Nat) (L : mjLs) (st : List Value) (Z : mjZt) (F : Option Value → mjZt → Prop) : Prop := ∀ (sg : Nat → Nat) (n : Nat × Nat) (W : mjWt), mjWok W → ∃ (fuel : Nat) (r : Option Value) (Z1 : mjZt), mjRun sg fuel (mjRk k) k pc L st n (mjVw W Z) = some (r, n, mjVw W Z1) ∧ F r Z1
section PU
variable {k pc pc1 k2 : Nat} {L L1 : mjLs} {st st1 As rest : List Value} {M M1 : mjZt} {F F2 : Option Value → mjZt → Prop} {r : Option Value}
theorem pG.mono (h : pG k pc L st M F) (g : ∀ r M1, F r M1 → F2 r M1) : pG k pc L st M F2 := by
  intro sg n W hW
  obtain ⟨f, r, M1, h1, h2⟩ := h sg n W hW
  exact ⟨f, r, M1, h1, g r M1 h2⟩
def mjOne1 (k pc : Nat) (L : mjLs) (st : List Value) (M : mjMem) : mjO := match mjLook (mjCode k) pc with
  | some (i, len) => if mjLn i len = true then (match mjRet k i st with
    | some _ => none
    | none => mjStp k i pc L st M) else none
  | none => none
def mjMany : Nat → Nat → Nat → mjLs → List Value → mjMem → mjO
  | 0, _, pc, L, st, M => some (pc, L, st, M)
  | m + 1, k, pc, L, st, M => match mjOne1 k pc L st M with
    | some (pc1, L1, st1, M1) => mjMany m k pc1 L1 st1 M1
    | none => none
theorem mjOne1_run {sg : Nat → Nat} {f d : Nat} {n : Nat × Nat} {M2 M3 : mjMem} {x : Option Value × (Nat × Nat) × mjMem} (h : mjOne1 k pc L st M2 = some (pc1, L1, st1, M3)) (h1 : mjRun sg f d k pc1 L1 st1 n M3 = some x) : mjRun sg (f + 1) d k pc L st n M2 = some x := by
  unfold mjOne1 at h
  rw [mjRun]
  split at h
  · rename_i i len hl
    rw [hl]
    dsimp only
    split at h
    · rename_i hln
      rw [if_pos hln]
      split at h
      · cases h
      · rename_i hr
        rw [hr]
        dsimp only
        rw [h]
        exact h1
    · cases h
  · cases h
theorem mjMany_run {sg : Nat → Nat} {d : Nat} {n : Nat × Nat} {x : Option Value × (Nat × Nat) × mjMem} : ∀ (m : Nat) {f k pc pc1 : Nat} {L L1 : mjLs} {st st1 : List Value} {M2 M3 : mjMem}, mjMany m k pc L st M2 = some (pc1, L1, st1, M3) → mjRun sg f d k pc1 L1 st1 n M3 = some x → mjRun sg (f + m) d k pc L st n M2 = some x
  | 0, f, k, pc, pc1, L, L1, st, st1, M2, M3, h, g => by
    simp only [mjMany, Option.some.injEq, Prod.mk.injEq] at h
    obtain ⟨rfl, rfl, rfl, rfl⟩ := h
    exact g
  | m + 1, f, k, pc, pc1, L, L1, st, st1, M2, M3, h, g => by
    rw [mjMany] at h
    split at h
    · rename_i h1
      exact mjOne1_run h1 (mjMany_run m h g)
    · cases h
theorem pG_one (h : ∀ W, mjWok W → mjOne1 k pc L st (mjVw W M) = some (pc1, L1, st1, mjVw W M1)) (g : pG k pc1 L1 st1 M1 F) : pG k pc L st M F := by
  intro sg n W hW
  obtain ⟨f, r, M2, h1, h2⟩ := g sg n W hW
  exact ⟨f + 1, r, M2, mjOne1_run (h W hW) h1, h2⟩
theorem pG_many (m : Nat) (h : ∀ W, mjWok W → mjMany m k pc L st (mjVw W M) = some (pc1, L1, st1, mjVw W M1)) (g : pG k pc1 L1 st1 M1 F) : pG k pc L st M F := by
  intro sg n W hW
  obtain ⟨f, r, M2, h1, h2⟩ := g sg n W hW
  exact ⟨f + m, r, M2, mjMany_run m (h W hW) h1, h2⟩
def mjRt1 (k pc : Nat) (st : List Value) : Option (Option Value) := match mjLook (mjCode k) pc with
  | some (i, len) => if mjLn i len = true then mjRet k i st else none
  | none => none
theorem mjRt1_run {sg : Nat → Nat} {d : Nat} {n : Nat × Nat} {M2 : mjMem} (h : mjRt1 k pc st = some r) : mjRun sg 1 d k pc L st n M2 = some (r, n, M2) := by
  unfold mjRt1 at h
  rw [mjRun]
  split at h
  · rename_i i len hl
    rw [hl]
    dsimp only
    split at h
    · rename_i hln
      rw [if_pos hln, h]
    · cases h
  · cases h
theorem pG_ret (h : mjRt1 k pc st = some r) (g : F r M) : pG k pc L st M F := fun sg n W _ => ⟨1, r, M, mjRt1_run h, g⟩
/-- a call, at depth d -/
def mjCl1 (k pc d : Nat) (st : List Value) (M : mjMem) : Option (Nat × List Value × List Value × Nat) := match mjLook (mjCode k) pc with
  | some (.invokevirtual ix, len) => if mjLn (.invokevirtual ix) len = true then mjCall k (.invokevirtual ix) d st M else none
  | some (.invokestatic ix, len) => if mjLn (.invokestatic ix) len = true then mjCall k (.invokestatic ix) d st M else none
  | some (.invokespecial ix, len) => if mjLn (.invokespecial ix) len = true then mjCall k (.invokespecial ix) d st M else none
  | some (.invokeinterface ix c, len) => if mjLn (.invokeinterface ix c) len = true then mjCall k (.invokeinterface ix c) d st M else none
  | _ => none
theorem mjCl1_run {sg : Nat → Nat} {f d w : Nat} {n : Nat × Nat} {M2 : mjMem} (h : mjCl1 k pc d st M2 = some (k2, As, rest, w)) : mjRun sg (f + 1) d k pc L st n M2 = (if k2 = 999 then mjRun sg f d k (pc + 3) L rest n M2
              else if k2 = 1005 then (match mjCopy k As M2 with
                | some M1 => mjRun sg f d k (pc + 3) L rest n M1
                | none => none)
              else if k2 = 1006 then (match mjCln k As M2 (sg n.1) with
                | some (M1, z) => if n.1 < 100000 then mjRun sg f d k (pc + 3) L (.ref (sg n.1) :: rest) (n.1 + 1, n.2 + z) M1 else none
                | none => none)
              else if 1000 ≤ k2 then (match mjPrim k2 As with
                | some (some v) => mjRun sg f d k (pc + 3) L (v :: rest) n M2
                | _ => none)
              else match mjRun sg f (d - 1) k2 0 (mjEnt As (mjML k2)) [] n M2 with
                | some (r, n1, M1) => mjRun sg f d k (pc + w) L (r.toList ++ rest) n1 M1
                | none => none) := by
  unfold mjCl1 at h
  rw [mjRun]
  split at h
  · rename_i ix len hl
    split at h
    · rename_i hln
      rw [hl]
      dsimp only
      rw [if_pos hln]
      show (match mjCall k (.invokevirtual ix) d st M2 with | none => none | some (k2, As, rest, w) => _) = _
      rw [h]
      rfl
    · cases h
  · rename_i ix len hl
    split at h
    · rename_i hln
      rw [hl]
      dsimp only
      rw [if_pos hln]
      show (match mjCall k (.invokestatic ix) d st M2 with | none => none | some (k2, As, rest, w) => _) = _
      rw [h]
      rfl
    · cases h
  · rename_i ix len hl
    split at h
    · rename_i hln
      rw [hl]
      dsimp only
      rw [if_pos hln]
      show (match mjCall k (.invokespecial ix) d st M2 with | none => none | some (k2, As, rest, w) => _) = _
      rw [h]
      rfl
    · cases h
  · rename_i ix c len hl
    split at h
    · rename_i hln
      rw [hl]
      dsimp only
      rw [if_pos hln]
      show (match mjCall k (.invokeinterface ix c) d st M2 with | none => none | some (k2, As, rest, w) => _) = _
      rw [h]
      rfl
    · cases h
  · cases h
theorem pG_call (h : ∀ W, mjWok W → mjCl1 k pc (mjRk k) st (mjVw W M) = some (k2, As, rest, 3)) (hk : k2 < 999) (hd : mjRk k2 < mjRk k) (g : pG k2 0 (mjEnt As (mjML k2)) [] M F2) (c : ∀ r M1, F2 r M1 → pG k (pc + 3) L (r.toList ++ rest) M1 F) : pG k pc L st M F := by
  intro sg n W hW
  obtain ⟨f, r, M1, h1, h2⟩ := g sg n W hW
  obtain ⟨f2, r2, M2, h3, h4⟩ := c r M1 h2 sg n W hW
  refine ⟨(f + f2) + 1, r2, M2, ?_, h4⟩
  rw [mjCl1_run (h W hW), if_neg (by omega), if_neg (by omega), if_neg (by omega), if_neg (by omega), mjRun_mono f h1 (by omega) (show mjRk k2 ≤ mjRk k - 1 by omega)]
  exact mjRun_mono f2 h3 (by omega) (Nat.le_refl _)
theorem pG_prim {v : Value} (h : ∀ W, mjWok W → mjCl1 k pc (mjRk k) st (mjVw W M) = some (k2, As, rest, 3)) (hk : 1000 ≤ k2) (hp : mjPrim k2 As = some (some v)) (c : pG k (pc + 3) L (v :: rest) M F) : pG k pc L st M F := by
  intro sg n W hW
  obtain ⟨f2, r2, M2, h3, h4⟩ := c sg n W hW
  refine ⟨f2 + 1, r2, M2, ?_, h4⟩
  have h5 : k2 ≠ 1005 := fun q => by subst q; cases hp
  have h6 : k2 ≠ 1006 := fun q => by subst q; cases hp
  rw [mjCl1_run (h W hW), if_neg (by omega), if_neg h5, if_neg h6, if_pos hk, hp]
  exact h3
end PU
def zSi (Z : mjZt) (a k : Nat) (v : Int32) : mjZt := (fun i j => if i = a then (if j = k then v else Z.1 i j) else Z.1 i j, Z.2)
def zSl (Z : mjZt) (a k : Nat) (v : Int64) : mjZt := (Z.1, fun i j => if i = a then (if j = k then v else Z.2.1 i j) else Z.2.1 i j, Z.2.2)
def mjLet {α β : Type} (x : α) (f : α → β) : β := f x
theorem vw_lt {W : mjWt} {Z : mjZt} {a : Nat} (h : a < 211) : (mjVw W Z).1 a = Z.1 a ∧ (mjVw W Z).2.1 a = Z.2.1 a ∧ (mjVw W Z).2.2.2 a = mjKc (mjLay a) ∧ ∀ k, (mjVw W Z).2.2.1 a k = mjRv Z.2.2.1 Z.2.2.2 a k := by
  refine ⟨if_neg (by omega), if_neg (by omega), if_pos h, fun k => if_pos h⟩
theorem vw_si {W : mjWt} {Z : mjZt} {a k : Nat} {v : Int32} (h : a < 211) : mjSi (mjVw W Z) a k v = mjVw W (zSi Z a k v) := by
  refine Prod.ext ?_ rfl
  funext i
  show (fun j => if i = a then (if j = k then v else (mjVw W Z).1 i j) else (mjVw W Z).1 i j) = (if 211 ≤ i ∧ i < 251 then (fun _ => 0) else fun j => if i = a then (if j = k then v else Z.1 i j) else Z.1 i j)
  by_cases q : 211 ≤ i ∧ i < 251
  · rw [if_pos q]
    funext j
    rw [if_neg (by omega)]
    exact congrFun (if_pos q) j
  · rw [if_neg q]
    funext j
    rw [show (mjVw W Z).1 i = Z.1 i from if_neg q]
theorem vw_sl {W : mjWt} {Z : mjZt} {a k : Nat} {v : Int64} (h : a < 211) : mjSl (mjVw W Z) a k v = mjVw W (zSl Z a k v) := by
  refine Prod.ext rfl (Prod.ext ?_ rfl)
  funext i
  show (fun j => if i = a then (if j = k then v else (mjVw W Z).2.1 i j) else (mjVw W Z).2.1 i j) = (if 211 ≤ i ∧ i < 251 then (fun _ => 0) else fun j => if i = a then (if j = k then v else Z.2.1 i j) else Z.2.1 i j)
  by_cases q : 211 ≤ i ∧ i < 251
  · rw [if_pos q]
    funext j
    rw [if_neg (by omega)]
    exact congrFun (if_pos q) j
  · rw [if_neg q]
    funext j
    rw [show (mjVw W Z).2.1 i = Z.2.1 i from if_neg q]
theorem mjLay_kind : ∀ a, a < 211 → (mjLay a).1 < 18 ∧ (mjLay a).1 ≠ 12 := by decide +kernel
theorem vw_is {W : mjWt} {Z : mjZt} {a c : Nat} (h : mjIs a 211 c = true) : mjKs (mjVw W Z) a (mjKc (c, 0)).1 = true ∧ a < 211 ∧ mjAl (mjVw W Z) a = (mjLay a).2 := by
  obtain ⟨h1, h2⟩ := mjIs_spec h
  have h3 := (vw_lt (W := W) (Z := Z) h1).2.2.1
  refine ⟨?_, h1, by rw [mjAl, h3]; rfl⟩
  rw [mjKs, h3]
  show ((if (mjLay a).1 < 12 then (mjLay a).1 else (mjLay a).1 + 100) == (if c < 12 then c else c + 100)) = true
  rw [h2]
  exact beq_self_eq_true _
theorem vw_ob {W : mjWt} {Z : mjZt} {a c : Nat} (h : mjIs a 211 c = true) (hc : c < 12) : mjKs (mjVw W Z) a c = true := by
  have h1 := (vw_is (W := W) (Z := Z) h).1
  rw [show (mjKc (c, 0)).1 = c from if_pos hc] at h1
  exact h1
theorem wr_lt {k a : Nat} (h : a < 211) : mjWr k a = true := decide_eq_true (Or.inr h)
theorem mjSbd_lt {a : Nat} (h : a < 211) : ¬ mjSbd a = true := by simp [mjSbd]; omega
theorem mjSrd_lt {a : Nat} (h : a < 211) : mjSrd a = none := by unfold mjSrd; rw [if_neg (by omega), if_neg (by omega), if_neg (by omega)]
/-- an object's class is one of the class's -/
theorem mjFld12 : ((List.range 12).all fun o => (mjFL.getD o []).all fun q => decide (q.2.1 < 12)) = true := by decide +kernel
