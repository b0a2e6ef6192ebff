/-! MACHINE: THE CONSTRUCTORS, by a run over a log of what is written -/
/-- an entry: 0 an int, 1 a long, 2 a reference written at (object, slot); 3 an object made -/
abbrev cLg : Type := List (Nat × Nat × Nat × Int)
abbrev cO : Type := Option (Nat × mjLs × List Value × cLg)
def cAp1 (e : Nat × Nat × Nat × Int) (M : mjMem) : mjMem := if e.1 = 0 then mjSi M e.2.1 e.2.2.1 (Int32.ofInt e.2.2.2) else if e.1 = 1 then mjSl M e.2.1 e.2.2.1 (Int64.ofInt e.2.2.2) else if e.1 = 2 then mjSr M e.2.1 e.2.2.1 (some e.2.2.2.toNat) else mjZr M e.2.1
def cAp : cLg → mjMem → mjMem
  | [], M => M
  | e :: W, M => cAp1 e (cAp W M)
def cRf : cLg → Nat → Nat → Option Nat
  | [], _, _ => none
  | e :: W, a, k => if e.1 = 2 ∧ e.2.1 = a ∧ e.2.2.1 = k then some e.2.2.2.toNat else if e.2.1 = a ∧ ¬ e.1 = 0 ∧ ¬ e.1 = 1 ∧ ¬ e.1 = 2 then none else cRf W a k
def cUp (o : mjO) (W : cLg) : cO := match o with
  | some q => some (q.1, q.2.1, q.2.2.1, W)
  | none => none
def mjMd : mjMem := (fun _ _ => 0, fun _ _ => 0, fun _ _ => none)
def cPut (k own ix pc n : Nat) (L : mjLs) (st : List Value) (W : cLg) : cO := match mjFld own ix with
  | none => none
  | some (ci, f) => if (mjTx ci f).2.2.2 = true ∧ ¬ (mjKd k = 2 ∧ ci = own) then none else match st with
    | .int x :: .ref a :: r => if mjIs a n ci = true ∧ mjPutI (mjFk ci f) x = true then some (pc + 3, L, r, (0, a, f, x.toInt) :: W) else none
    | .ref b :: .ref a :: r => if mjIs a n ci = true ∧ mjFk ci f = 2 then some (pc + 3, L, r, (2, a, f, (b : Int)) :: W) else none
    | _ => none
def cGet (own ix pc n : Nat) (L : mjLs) (st : List Value) (W : cLg) : cO := match mjFld own ix with
  | none => none
  | some (ci, f) => match st with
    | .ref a :: r => if mjIs a n ci = true ∧ mjFk ci f = 2 then (match cRf W a f with
      | some b => some (pc + 3, L, .ref b :: r, W)
      | none => none) else none
    | _ => none
def cLas (pc n : Nat) (L : mjLs) (st : List Value) (W : cLg) : cO := match st with
  | .long x :: .int i :: .ref a :: r => if mjIs a n 14 = true ∧ mjIn i (mjLay a).2 = true then some (pc + 1, L, r, (1, a, mjIx i, x.toInt) :: W) else none
  | _ => none
def cAas (pc n : Nat) (L : mjLs) (st : List Value) (W : cLg) : cO := match st with
  | .ref b :: .int i :: .ref a :: r => if ((mjIs a n 16 = true ∧ mjIs b n 7 = true) ∨ (mjIs a n 17 = true ∧ mjIs b n 0 = true)) ∧ mjIn i (mjLay a).2 = true then some (pc + 1, L, r, (2, a, mjIx i, (b : Int)) :: W) else none
  | _ => none
def cStp (k : Nat) (i : Instr) (pc n : Nat) (L : mjLs) (st : List Value) (W : cLg) : cO := match i with
  | .aload_n j => cUp (mjLoadA L j (pc + 1) st mjMd) W
  | .iload_n j => cUp (mjLoadI L j (pc + 1) st mjMd) W
  | .istore_n j => cUp (mjStoI L j (pc + 1) st mjMd) W
  | .astore_n j => cUp (mjStoA L j (pc + 1) st mjMd) W
  | .iconst v => some (pc + 1, L, .int (Int32.ofInt v) :: st, W)
  | .bipush v => some (pc + 2, L, .int (Int8.ofInt v).toInt32 :: st, W)
  | .sipush v => some (pc + 3, L, .int (Int16.ofInt v).toInt32 :: st, W)
  | .ldc2_w ix => cUp (mjLdc2 (mjCls k) ix pc L st mjMd) W
  | .if_icmp c off => cUp (mjIcmp c off pc L st mjMd) W
  | .goto off => (match mjJ pc off with | some t => some (t, L, st, W) | none => none)
  | .iinc j c => cUp (mjIinc j c pc L st mjMd) W
  | .dup => cUp (mjDup pc L st mjMd) W
  | .getfield ix => cGet (mjCls k) ix pc n L st W
  | .putfield ix => cPut k (mjCls k) ix pc n L st W
  | .lastore => cLas pc n L st W
  | .aastore => cAas pc n L st W
  | _ => none
def cNwA (pc n : Nat) (t w : Nat) (L : mjLs) (st : List Value) (W : cLg) : cO := match st with
  | .int x :: r => if 0 ≤ x.toInt ∧ mjLay n = (t, x.toInt.toNat) ∧ x.toInt ≤ 100000 then some (pc + w, L, .ref n :: r, (3, n, 0, 0) :: W) else none
  | _ => none
def cNew (k : Nat) (i : Instr) (pc n : Nat) (L : mjLs) (st : List Value) (W : cLg) : cO := match i with
  | .new ix => (match mjNwF (mjCls k) ix with
    | some ci => if mjLay n = (ci, 0) then some (pc + 3, L, .ref n :: st, (3, n, 0, 0) :: W) else none
    | none => none)
  | .newarray .int => cNwA pc n 13 2 L st W
  | .newarray .long => cNwA pc n 14 2 L st W
  | .newarray .boolean => cNwA pc n 15 2 L st W
  | .anewarray ix => (match mjNwF (mjCls k) ix with
    | some 7 => cNwA pc n 16 3 L st W
    | some 0 => cNwA pc n 17 3 L st W
    | _ => none)
  | _ => none
def cRun : Nat → Nat → Nat → mjLs → List Value → Nat → cLg → Option (Option Value × Nat × cLg)
  | 0, _, _, _, _, _, _ => none
  | fuel + 1, k, pc, L, st, n, W => match mjLook (mjCode k) pc with
    | none => none
    | some (i, len) => if mjLn i len = true then (match mjRet k i st with
      | some r => some (r, n, W)
      | none => match cStp k i pc n L st W with
        | some (pc1, L1, st1, W1) => cRun fuel k pc1 L1 st1 n W1
        | none => match cNew k i pc n L st W with
          | some (pc1, L1, st1, W1) => cRun fuel k pc1 L1 st1 (n + 1) W1
          | none => match i with
            | .invokespecial ix => (match mjCall k (.invokespecial ix) n st with
              | none => none
              | some (k2, As, rest) => if k2 = 999 then cRun fuel k (pc + 3) L rest n W
                else if 1000 ≤ k2 then none
                else match cRun fuel k2 0 (mjEnt As (mjML k2)) [] n W with
                  | some (r, n1, W1) => cRun fuel k (pc + 3) L (r.toList ++ rest) n1 W1
                  | none => none)
            | _ => none) else none
section CN
variable {k pc pc1 n own ix t w : Nat} {L L1 : mjLs} {st st1 : List Value} {W W1 : cLg} {M : mjMem} {i : Instr}
theorem cUp_ok {f : mjMem → mjO} (hf : ∀ M, f M = match f mjMd with | some q => some (q.1, q.2.1, q.2.2.1, M) | none => none) (h : cUp (f mjMd) W = some (pc1, L1, st1, W1)) (M : mjMem) : f (cAp W M) = some (pc1, L1, st1, cAp W1 M) := by
  rw [hf]
  unfold cUp at h
  cases h1 : f mjMd with
  | none => rw [h1] at h; cases h
  | some q =>
    rw [h1] at h
    simp only [Option.some.injEq, Prod.mk.injEq] at h
    obtain ⟨rfl, rfl, rfl, rfl⟩ := h
    rfl
theorem cRf_ok : ∀ {W : cLg} {a k b : Nat} (M : mjMem), cRf W a k = some b → (cAp W M).2.2 a k = some b
  | [], a, k, b, M, h => by cases h
  | e :: W, a, k, b, M, h => by
    rw [cRf] at h
    rw [cAp]
    unfold cAp1
    by_cases h2 : e.1 = 2
    · have hn0 : ¬ e.1 = 0 := by omega
      have hn1 : ¬ e.1 = 1 := by omega
      rw [if_neg hn0, if_neg hn1, if_pos h2]
      by_cases h3 : e.2.1 = a ∧ e.2.2.1 = k
      · rw [if_pos ⟨h2, h3.1, h3.2⟩] at h
        show (if a = e.2.1 then (if k = e.2.2.1 then some e.2.2.2.toNat else _) else _) = some b
        rw [if_pos h3.1.symm, if_pos h3.2.symm]
        exact h
      · rw [if_neg (fun q => h3 ⟨q.2.1, q.2.2⟩), if_neg (fun q => q.2.2.2 h2)] at h
        show (if a = e.2.1 then (if k = e.2.2.1 then some e.2.2.2.toNat else (cAp W M).2.2 a k) else (cAp W M).2.2 a k) = some b
        have r := cRf_ok M h
        by_cases h4 : a = e.2.1
        · rw [if_pos h4, if_neg (fun q => h3 ⟨h4.symm, q.symm⟩)]; exact r
        · rw [if_neg h4]; exact r
    · rw [if_neg (fun q => h2 q.1)] at h
      by_cases h0 : e.1 = 0
      · rw [if_neg (fun q => q.2.1 h0)] at h
        rw [if_pos h0]
        exact cRf_ok M h
      · by_cases h1 : e.1 = 1
        · rw [if_neg (fun q => q.2.2.1 h1)] at h
          rw [if_neg h0, if_pos h1]
          exact cRf_ok M h
        · rw [if_neg h0, if_neg h1, if_neg h2]
          by_cases h4 : e.2.1 = a
          · rw [if_pos ⟨h4, h0, h1, h2⟩] at h; cases h
          · rw [if_neg (fun q => h4 q.1)] at h
            show (if a = e.2.1 then none else (cAp W M).2.2 a k) = some b
            rw [if_neg (fun q => h4 q.symm)]
            exact cRf_ok M h
theorem cPut_ok (h : cPut k own ix pc n L st W = some (pc1, L1, st1, W1)) (M : mjMem) : mjPut k own ix pc n L st (cAp W M) = some (pc1, L1, st1, cAp W1 M) := by
  unfold cPut at h
  unfold mjPut
  split at h
  · cases h
  · rename_i ci f hf
    rw [hf]
    dsimp only
    split at h
    · cases h
    · rename_i hx
      rw [if_neg hx]
      split at h
      · split at h
        · rename_i hy
          simp only [Option.some.injEq, Prod.mk.injEq] at h
          obtain ⟨rfl, rfl, rfl, rfl⟩ := h
          dsimp only
          rw [if_pos hy]
          simp only [cAp, cAp1, if_true, Int32.ofInt_toInt]
        · cases h
      · split at h
        · rename_i hy
          simp only [Option.some.injEq, Prod.mk.injEq] at h
          obtain ⟨rfl, rfl, rfl, rfl⟩ := h
          dsimp only
          rw [if_pos hy]
          rfl
        · cases h
      · cases h
theorem cGet_ok (h : cGet own ix pc n L st W = some (pc1, L1, st1, W1)) (M : mjMem) : mjGet own ix pc n L st (cAp W M) = some (pc1, L1, st1, cAp W1 M) := by
  unfold cGet at h
  unfold mjGet
  split at h
  · cases h
  · rename_i ci f hf
    rw [hf]
    dsimp only
    split at h
    · split at h
      · rename_i hy
        split at h
        · rename_i b hb
          simp only [Option.some.injEq, Prod.mk.injEq] at h
          obtain ⟨rfl, rfl, rfl, rfl⟩ := h
          dsimp only
          rw [if_pos hy.1, hy.2, cRf_ok M hb]
          rfl
        · cases h
      · cases h
    · cases h
theorem cLas_ok (h : cLas pc n L st W = some (pc1, L1, st1, W1)) (M : mjMem) : mjLas pc n L st (cAp W M) = some (pc1, L1, st1, cAp W1 M) := by
  unfold cLas at h
  unfold mjLas
  split at h
  · split at h
    · rename_i hy
      simp only [Option.some.injEq, Prod.mk.injEq] at h
      obtain ⟨rfl, rfl, rfl, rfl⟩ := h
      dsimp only
      rw [if_pos hy]
      simp only [cAp, cAp1, if_true, Int64.ofInt_toInt, Nat.one_ne_zero, if_false]
    · cases h
  · cases h
theorem cAas_ok (h : cAas pc n L st W = some (pc1, L1, st1, W1)) (M : mjMem) : mjAas pc n L st (cAp W M) = some (pc1, L1, st1, cAp W1 M) := by
  unfold cAas at h
  unfold mjAas
  split at h
  · split at h
    · rename_i hy
      simp only [Option.some.injEq, Prod.mk.injEq] at h
      obtain ⟨rfl, rfl, rfl, rfl⟩ := h
      dsimp only
      rw [if_pos hy]
      rfl
    · cases h
  · cases h
theorem cStp_ok (h : cStp k i pc n L st W = some (pc1, L1, st1, W1)) (M : mjMem) : mjStp k i pc n L st (cAp W M) = some (pc1, L1, st1, cAp W1 M) := by
  unfold cStp at h
  split at h
  · exact cUp_ok (f := fun M => mjLoadA L _ (pc + 1) st M) (fun M => by unfold mjLoadA; split <;> rfl) h M
  · exact cUp_ok (f := fun M => mjLoadI L _ (pc + 1) st M) (fun M => by unfold mjLoadI; split <;> rfl) h M
  · exact cUp_ok (f := fun M => mjStoI L _ (pc + 1) st M) (fun M => by unfold mjStoI; split <;> first | rfl | (split <;> rfl)) h M
  · exact cUp_ok (f := fun M => mjStoA L _ (pc + 1) st M) (fun M => by unfold mjStoA; split <;> first | rfl | (split <;> rfl)) h M
  · simp only [Option.some.injEq, Prod.mk.injEq] at h; obtain ⟨rfl, rfl, rfl, rfl⟩ := h; rfl
  · simp only [Option.some.injEq, Prod.mk.injEq] at h; obtain ⟨rfl, rfl, rfl, rfl⟩ := h; rfl
  · simp only [Option.some.injEq, Prod.mk.injEq] at h; obtain ⟨rfl, rfl, rfl, rfl⟩ := h; rfl
  · exact cUp_ok (f := fun M => mjLdc2 (mjCls k) _ pc L st M) (fun M => by unfold mjLdc2; split <;> rfl) h M
  · exact cUp_ok (f := fun M => mjIcmp _ _ pc L st M) (fun M => by unfold mjIcmp mjBr; split <;> first | rfl | (split <;> rfl)) h M
  · split at h
    · rename_i hj
      simp only [Option.some.injEq, Prod.mk.injEq] at h; obtain ⟨rfl, rfl, rfl, rfl⟩ := h
      simp only [mjStp, hj]
    · cases h
  · exact cUp_ok (f := fun M => mjIinc _ _ pc L st M) (fun M => by unfold mjIinc; split <;> rfl) h M
  · exact cUp_ok (f := fun M => mjDup pc L st M) (fun M => by unfold mjDup; split <;> first | rfl | (split <;> rfl)) h M
  · exact cGet_ok h M
  · exact cPut_ok h M
  · exact cLas_ok h M
  · exact cAas_ok h M
  · cases h
theorem cNwA_ok (h : cNwA pc n t w L st W = some (pc1, L1, st1, W1)) (M : mjMem) : mjNwA pc n t w L st (cAp W M) = some (pc1, L1, st1, cAp W1 M) := by
  unfold cNwA at h
  unfold mjNwA
  split at h
  · split at h
    · rename_i hy
      simp only [Option.some.injEq, Prod.mk.injEq] at h
      obtain ⟨rfl, rfl, rfl, rfl⟩ := h
      dsimp only
      rw [if_pos hy]
      rfl
    · cases h
  · cases h
theorem cNew_ok (h : cNew k i pc n L st W = some (pc1, L1, st1, W1)) (M : mjMem) : mjStp k i pc n L st (cAp W M) = none ∧ mjNew k i pc n L st (cAp W M) = some (pc1, L1, st1, cAp W1 M) := by
  unfold cNew at h
  split at h
  · refine ⟨rfl, ?_⟩
    split at h
    · rename_i hq
      split at h
      · rename_i hy
        simp only [Option.some.injEq, Prod.mk.injEq] at h
        obtain ⟨rfl, rfl, rfl, rfl⟩ := h
        simp only [mjNew, hq, hy, if_true]
        rfl
      · cases h
    · cases h
  · exact ⟨rfl, cNwA_ok h M⟩
  · exact ⟨rfl, cNwA_ok h M⟩
  · exact ⟨rfl, cNwA_ok h M⟩
  · refine ⟨rfl, ?_⟩
    split at h
    · rename_i hq
      simp only [mjNew, hq]
      exact cNwA_ok h M
    · rename_i hq
      simp only [mjNew, hq]
      exact cNwA_ok h M
    · cases h
  · cases h
end CN
/-- A RUN OVER THE LOG IS A RUN OF THE INTERPRETER -/
theorem cRun_ok (M : mjMem) : ∀ (fuel : Nat) {k pc : Nat} {L : mjLs} {st : List Value} {n : Nat} {W : cLg} {r : Option Value} {n1 : Nat} {W1 : cLg}, cRun fuel k pc L st n W = some (r, n1, W1) → mjRun fuel k pc L st n (cAp W M) = some (r, n1, cAp W1 M)
  | 0, k, pc, L, st, n, W, r, n1, W1, h => by simp [cRun] at h
  | f + 1, k, pc, L, st, n, W, r, n1, W1, h => by
    rw [cRun] at h
    rw [mjRun]
    cases h1 : mjLook (mjCode k) pc with
    | none => rw [h1] at h; cases h
    | some q =>
      obtain ⟨i, len⟩ := q
      rw [h1] at h
      dsimp only at h ⊢
      by_cases h2 : mjLn i len = true
      · rw [if_pos h2] at h ⊢
        cases h3 : mjRet k i st with
        | some r' =>
          rw [h3] at h
          simp only [Option.some.injEq, Prod.mk.injEq] at h
          obtain ⟨rfl, rfl, rfl⟩ := h
          rfl
        | none =>
          rw [h3] at h
          dsimp only at h ⊢
          cases h4 : cStp k i pc n L st W with
          | some q =>
            obtain ⟨a1, a2, a3, a4⟩ := q
            rw [h4] at h
            rw [cStp_ok h4 M]
            exact cRun_ok M f h
          | none =>
            rw [h4] at h
            dsimp only at h
            cases h5 : cNew k i pc n L st W with
            | some q =>
              obtain ⟨a1, a2, a3, a4⟩ := q
              rw [h5] at h
              obtain ⟨g1, g2⟩ := cNew_ok h5 M
              rw [g1, g2]
              exact cRun_ok M f h
            | none =>
              rw [h5] at h
              dsimp only at h
              split at h
              · rename_i ix
                rw [show mjStp k (.invokespecial ix) pc n L st (cAp W M) = none from rfl, show mjNew k (.invokespecial ix) pc n L st (cAp W M) = none from rfl]
                dsimp only
                cases h6 : mjCall k (.invokespecial ix) n st with
                | none => rw [h6] at h; cases h
                | some q =>
                  obtain ⟨k2, As, rest⟩ := q
                  rw [h6] at h
                  dsimp only at h ⊢
                  by_cases h7 : k2 = 999
                  · rw [if_pos h7] at h ⊢; exact cRun_ok M f h
                  · rw [if_neg h7] at h ⊢
                    by_cases h8 : 1000 ≤ k2
                    · rw [if_pos h8] at h; cases h
                    · rw [if_neg h8] at h ⊢
                      cases h9 : cRun f k2 0 (mjEnt As (mjML k2)) [] n W with
                      | none => rw [h9] at h; cases h
                      | some q =>
                        obtain ⟨a1, a2, a3⟩ := q
                        rw [h9] at h
                        rw [cRun_ok M f h9]
                        exact cRun_ok M f h
              · cases h
      · rw [if_neg h2] at h; cases h
def cChk (n : Nat) (W : cLg) (o : Option (Option Value × Nat × cLg)) : Bool := match o with
  | some (none, n1, W1) => n1 == n && W1 == W
  | _ => false
theorem cChk_ok {n : Nat} {W : cLg} {o : Option (Option Value × Nat × cLg)} (h : cChk n W o = true) : o = some (none, n, W) := by
  unfold cChk at h
  split at h
  · simp only [Bool.and_eq_true, beq_iff_eq] at h
    obtain ⟨rfl, rfl⟩ := h
    rfl
  · cases h
/-- what the class's constructor writes, the latest first -/
def cW1 : cLg := [(2, 0, 9, 209), (2, 209, 0, 210), (3, 210, 0, 0), (3, 209, 0, 0), (2, 0, 8, 204), (2, 204, 3, 208), (3, 208, 0, 0), (2, 204, 2, 207), (3, 207, 0, 0), (2, 204, 1, 206), (3, 206, 0, 0), (2, 204, 0, 205), (3, 205, 0, 0), (3, 204, 0, 0), (2, 0, 7, 199), (2, 199, 3, 203), (3, 203, 0, 0), (2, 199, 2, 202), (3, 202, 0, 0), (2, 199, 1, 201), (3, 201, 0, 0), (2, 199, 0, 200), (3, 200, 0, 0), (3, 199, 0, 0), (2, 0, 6, 190), (2, 190, 7, 198), (3, 198, 0, 0), (2, 190, 6, 197), (3, 197, 0, 0), (2, 190, 5, 196), (3, 196, 0, 0), (2, 190, 4, 195), (3, 195, 0, 0), (2, 190, 3, 194), (3, 194, 0, 0), (2, 190, 2, 193), (3, 193, 0, 0), (2, 190, 1, 192), (3, 192, 0, 0), (2, 190, 0, 191), (3, 191, 0, 0), (3, 190, 0, 0), (2, 0, 5, 188), (2, 188, 0, 189), (3, 189, 0, 0), (3, 188, 0, 0), (2, 0, 4, 182), (0, 182, 6, -1), (2, 182, 1, 185), (2, 185, 5, 187), (3, 187, 0, 0), (2, 185, 4, 186), (3, 186, 0, 0), (3, 185, 0, 0), (2, 182, 0, 183), (2, 183, 0, 184), (3, 184, 0, 0), (3, 183, 0, 0), (3, 182, 0, 0), (2, 0, 3, 92), (2, 101, 41, 181), (0, 181, 2, -1), (3, 181, 0, 0), (2, 101, 40, 180), (0, 180, 2, -1), (3, 180, 0, 0), (2, 101, 39, 179), (0, 179, 2, -1), (3, 179, 0, 0), (2, 101, 38, 178), (0, 178, 2, -1), (3, 178, 0, 0), (2, 101, 37, 177), (0, 177, 2, -1), (3, 177, 0, 0), (2, 101, 36, 176), (0, 176, 2, -1), (3, 176, 0, 0), (2, 101, 35, 175), (0, 175, 2, -1), (3, 175, 0, 0), (2, 101, 34, 174), (0, 174, 2, -1), (3, 174, 0, 0), (2, 101, 33, 173), (0, 173, 2, -1), (3, 173, 0, 0), (2, 101, 32, 172), (0, 172, 2, -1), (3, 172, 0, 0), (2, 101, 31, 171), (0, 171, 2, -1), (3, 171, 0, 0), (2, 101, 30, 170), (0, 170, 2, -1), (3, 170, 0, 0), (2, 101, 29, 169), (0, 169, 2, -1), (3, 169, 0, 0), (2, 101, 28, 168), (0, 168, 2, -1), (3, 168, 0, 0), (2, 101, 27, 167), (0, 167, 2, -1), (3, 167, 0, 0), (2, 101, 26, 166), (0, 166, 2, -1), (3, 166, 0, 0), (2, 101, 25, 165), (0, 165, 2, -1), (3, 165, 0, 0), (2, 101, 24, 164), (0, 164, 2, -1), (3, 164, 0, 0), (2, 101, 23, 163), (0, 163, 2, -1), (3, 163, 0, 0), (2, 101, 22, 162), (0, 162, 2, -1), (3, 162, 0, 0), (2, 101, 21, 161), (0, 161, 2, -1), (3, 161, 0, 0), (2, 101, 20, 160), (0, 160, 2, -1), (3, 160, 0, 0), (2, 101, 19, 159), (0, 159, 2, -1), (3, 159, 0, 0), (2, 101, 18, 158), (0, 158, 2, -1), (3, 158, 0, 0), (2, 101, 17, 157), (0, 157, 2, -1), (3, 157, 0, 0), (2, 101, 16, 156), (0, 156, 2, -1), (3, 156, 0, 0), (2, 101, 15, 155), (0, 155, 2, -1), (3, 155, 0, 0), (2, 101, 14, 154), (0, 154, 2, -1), (3, 154, 0, 0), (2, 101, 13, 153), (0, 153, 2, -1), (3, 153, 0, 0), (2, 101, 12, 152), (0, 152, 2, -1), (3, 152, 0, 0), (2, 101, 11, 151), (0, 151, 2, -1), (3, 151, 0, 0), (2, 101, 10, 150), (0, 150, 2, -1), (3, 150, 0, 0), (2, 101, 9, 149), (0, 149, 2, -1), (3, 149, 0, 0), (2, 101, 8, 148), (0, 148, 2, -1), (3, 148, 0, 0), (2, 101, 7, 147), (0, 147, 2, -1), (3, 147, 0, 0), (2, 101, 6, 146), (0, 146, 2, -1), (3, 146, 0, 0), (2, 101, 5, 145), (0, 145, 2, -1), (3, 145, 0, 0), (2, 101, 4, 144), (0, 144, 2, -1), (3, 144, 0, 0), (2, 101, 3, 143), (0, 143, 2, -1), (3, 143, 0, 0), (2, 101, 2, 142), (0, 142, 2, -1), (3, 142, 0, 0), (2, 101, 1, 141), (0, 141, 2, -1), (3, 141, 0, 0), (2, 101, 0, 140), (0, 140, 2, -1), (3, 140, 0, 0), (2, 100, 5, 135), (2, 135, 3, 139), (3, 139, 0, 0), (2, 135, 2, 138), (3, 138, 0, 0), (2, 135, 1, 137), (3, 137, 0, 0), (2, 135, 0, 136), (3, 136, 0, 0), (3, 135, 0, 0), (2, 100, 4, 130), (2, 130, 3, 134), (3, 134, 0, 0), (2, 130, 2, 133), (3, 133, 0, 0), (2, 130, 1, 132), (3, 132, 0, 0), (2, 130, 0, 131), (3, 131, 0, 0), (3, 130, 0, 0), (2, 100, 3, 125), (2, 125, 3, 129), (3, 129, 0, 0), (2, 125, 2, 128), (3, 128, 0, 0), (2, 125, 1, 127), (3, 127, 0, 0), (2, 125, 0, 126), (3, 126, 0, 0), (3, 125, 0, 0), (2, 100, 2, 120), (2, 120, 3, 124), (3, 124, 0, 0), (2, 120, 2, 123), (3, 123, 0, 0), (2, 120, 1, 122), (3, 122, 0, 0), (2, 120, 0, 121), (3, 121, 0, 0), (3, 120, 0, 0), (2, 100, 1, 115), (2, 115, 3, 119), (3, 119, 0, 0), (2, 115, 2, 118), (3, 118, 0, 0), (2, 115, 1, 117), (3, 117, 0, 0), (2, 115, 0, 116), (3, 116, 0, 0), (3, 115, 0, 0), (2, 100, 0, 110), (2, 110, 3, 114), (3, 114, 0, 0), (2, 110, 2, 113), (3, 113, 0, 0), (2, 110, 1, 112), (3, 112, 0, 0), (2, 110, 0, 111), (3, 111, 0, 0), (3, 110, 0, 0), (2, 92, 18, 109), (0, 109, 2, -1), (3, 109, 0, 0), (2, 92, 17, 104), (2, 104, 3, 108), (3, 108, 0, 0), (2, 104, 2, 107), (3, 107, 0, 0), (2, 104, 1, 106), (3, 106, 0, 0), (2, 104, 0, 105), (3, 105, 0, 0), (3, 104, 0, 0), (2, 92, 16, 103), (3, 103, 0, 0), (2, 92, 15, 102), (3, 102, 0, 0), (2, 92, 14, 101), (3, 101, 0, 0), (2, 92, 13, 100), (3, 100, 0, 0), (2, 92, 12, 93), (2, 93, 5, 99), (3, 99, 0, 0), (2, 93, 4, 98), (3, 98, 0, 0), (2, 93, 3, 97), (3, 97, 0, 0), (2, 93, 2, 96), (3, 96, 0, 0), (2, 93, 1, 95), (3, 95, 0, 0), (2, 93, 0, 94), (3, 94, 0, 0), (3, 93, 0, 0), (0, 92, 10, 5), (0, 92, 9, 2), (3, 92, 0, 0), (2, 0, 2, 2), (2, 11, 41, 91), (0, 91, 2, -1), (3, 91, 0, 0), (2, 11, 40, 90), (0, 90, 2, -1), (3, 90, 0, 0), (2, 11, 39, 89), (0, 89, 2, -1), (3, 89, 0, 0), (2, 11, 38, 88), (0, 88, 2, -1), (3, 88, 0, 0), (2, 11, 37, 87), (0, 87, 2, -1), (3, 87, 0, 0), (2, 11, 36, 86), (0, 86, 2, -1), (3, 86, 0, 0), (2, 11, 35, 85), (0, 85, 2, -1), (3, 85, 0, 0), (2, 11, 34, 84), (0, 84, 2, -1), (3, 84, 0, 0), (2, 11, 33, 83), (0, 83, 2, -1), (3, 83, 0, 0), (2, 11, 32, 82), (0, 82, 2, -1), (3, 82, 0, 0), (2, 11, 31, 81), (0, 81, 2, -1), (3, 81, 0, 0), (2, 11, 30, 80), (0, 80, 2, -1), (3, 80, 0, 0), (2, 11, 29, 79), (0, 79, 2, -1), (3, 79, 0, 0), (2, 11, 28, 78), (0, 78, 2, -1), (3, 78, 0, 0), (2, 11, 27, 77), (0, 77, 2, -1), (3, 77, 0, 0), (2, 11, 26, 76), (0, 76, 2, -1), (3, 76, 0, 0), (2, 11, 25, 75), (0, 75, 2, -1), (3, 75, 0, 0), (2, 11, 24, 74), (0, 74, 2, -1), (3, 74, 0, 0), (2, 11, 23, 73), (0, 73, 2, -1), (3, 73, 0, 0), (2, 11, 22, 72), (0, 72, 2, -1), (3, 72, 0, 0), (2, 11, 21, 71), (0, 71, 2, -1), (3, 71, 0, 0), (2, 11, 20, 70), (0, 70, 2, -1), (3, 70, 0, 0), (2, 11, 19, 69), (0, 69, 2, -1), (3, 69, 0, 0), (2, 11, 18, 68), (0, 68, 2, -1), (3, 68, 0, 0), (2, 11, 17, 67), (0, 67, 2, -1), (3, 67, 0, 0), (2, 11, 16, 66), (0, 66, 2, -1), (3, 66, 0, 0), (2, 11, 15, 65), (0, 65, 2, -1), (3, 65, 0, 0), (2, 11, 14, 64), (0, 64, 2, -1), (3, 64, 0, 0), (2, 11, 13, 63), (0, 63, 2, -1), (3, 63, 0, 0), (2, 11, 12, 62), (0, 62, 2, -1), (3, 62, 0, 0), (2, 11, 11, 61), (0, 61, 2, -1), (3, 61, 0, 0), (2, 11, 10, 60), (0, 60, 2, -1), (3, 60, 0, 0), (2, 11, 9, 59), (0, 59, 2, -1), (3, 59, 0, 0), (2, 11, 8, 58), (0, 58, 2, -1), (3, 58, 0, 0), (2, 11, 7, 57), (0, 57, 2, -1), (3, 57, 0, 0), (2, 11, 6, 56), (0, 56, 2, -1), (3, 56, 0, 0), (2, 11, 5, 55), (0, 55, 2, -1), (3, 55, 0, 0), (2, 11, 4, 54), (0, 54, 2, -1), (3, 54, 0, 0), (2, 11, 3, 53), (0, 53, 2, -1), (3, 53, 0, 0), (2, 11, 2, 52), (0, 52, 2, -1), (3, 52, 0, 0), (2, 11, 1, 51), (0, 51, 2, -1), (3, 51, 0, 0), (2, 11, 0, 50), (0, 50, 2, -1), (3, 50, 0, 0), (2, 10, 5, 45), (2, 45, 3, 49), (3, 49, 0, 0), (2, 45, 2, 48), (3, 48, 0, 0), (2, 45, 1, 47), (3, 47, 0, 0), (2, 45, 0, 46), (3, 46, 0, 0), (3, 45, 0, 0), (2, 10, 4, 40), (2, 40, 3, 44), (3, 44, 0, 0), (2, 40, 2, 43), (3, 43, 0, 0), (2, 40, 1, 42), (3, 42, 0, 0), (2, 40, 0, 41), (3, 41, 0, 0), (3, 40, 0, 0), (2, 10, 3, 35), (2, 35, 3, 39), (3, 39, 0, 0), (2, 35, 2, 38), (3, 38, 0, 0), (2, 35, 1, 37), (3, 37, 0, 0), (2, 35, 0, 36), (3, 36, 0, 0), (3, 35, 0, 0), (2, 10, 2, 30), (2, 30, 3, 34), (3, 34, 0, 0), (2, 30, 2, 33), (3, 33, 0, 0), (2, 30, 1, 32), (3, 32, 0, 0), (2, 30, 0, 31), (3, 31, 0, 0), (3, 30, 0, 0), (2, 10, 1, 25), (2, 25, 3, 29), (3, 29, 0, 0), (2, 25, 2, 28), (3, 28, 0, 0), (2, 25, 1, 27), (3, 27, 0, 0), (2, 25, 0, 26), (3, 26, 0, 0), (3, 25, 0, 0), (2, 10, 0, 20), (2, 20, 3, 24), (3, 24, 0, 0), (2, 20, 2, 23), (3, 23, 0, 0), (2, 20, 1, 22), (3, 22, 0, 0), (2, 20, 0, 21), (3, 21, 0, 0), (3, 20, 0, 0), (2, 2, 18, 19), (0, 19, 2, -1), (3, 19, 0, 0), (2, 2, 17, 14), (2, 14, 3, 18), (3, 18, 0, 0), (2, 14, 2, 17), (3, 17, 0, 0), (2, 14, 1, 16), (3, 16, 0, 0), (2, 14, 0, 15), (3, 15, 0, 0), (3, 14, 0, 0), (2, 2, 16, 13), (3, 13, 0, 0), (2, 2, 15, 12), (3, 12, 0, 0), (2, 2, 14, 11), (3, 11, 0, 0), (2, 2, 13, 10), (3, 10, 0, 0), (2, 2, 12, 3), (2, 3, 5, 9), (3, 9, 0, 0), (2, 3, 4, 8), (3, 8, 0, 0), (2, 3, 3, 7), (3, 7, 0, 0), (2, 3, 2, 6), (3, 6, 0, 0), (2, 3, 1, 5), (3, 5, 0, 0), (2, 3, 0, 4), (3, 4, 0, 0), (3, 3, 0, 0), (0, 2, 10, 5), (0, 2, 9, 2), (3, 2, 0, 0), (2, 0, 0, 1), (3, 1, 0, 0), (3, 0, 0, 0)]
/-- and the model's -/
def cW2 : cLg := [(0, 211, 17, 0), (0, 211, 43, 5), (0, 211, 42, 2), (2, 211, 71, 250), (3, 250, 0, 0), (2, 211, 70, 249), (3, 249, 0, 0), (2, 211, 69, 248), (3, 248, 0, 0), (2, 211, 68, 247), (3, 247, 0, 0), (2, 211, 64, 246), (3, 246, 0, 0), (2, 211, 63, 245), (3, 245, 0, 0), (2, 211, 62, 244), (3, 244, 0, 0), (2, 211, 61, 243), (3, 243, 0, 0), (0, 211, 59, -1), (2, 211, 58, 242), (3, 242, 0, 0), (2, 211, 57, 241), (3, 241, 0, 0), (2, 211, 55, 240), (3, 240, 0, 0), (2, 211, 54, 239), (3, 239, 0, 0), (2, 211, 53, 238), (3, 238, 0, 0), (2, 211, 52, 237), (3, 237, 0, 0), (2, 211, 51, 236), (3, 236, 0, 0), (2, 211, 50, 235), (3, 235, 0, 0), (2, 211, 49, 234), (3, 234, 0, 0), (2, 211, 48, 233), (3, 233, 0, 0), (2, 211, 47, 232), (3, 232, 0, 0), (2, 211, 46, 231), (3, 231, 0, 0), (2, 211, 45, 230), (3, 230, 0, 0), (2, 211, 44, 229), (3, 229, 0, 0), (2, 211, 38, 228), (3, 228, 0, 0), (2, 211, 37, 227), (3, 227, 0, 0), (2, 211, 36, 226), (3, 226, 0, 0), (2, 211, 35, 225), (3, 225, 0, 0), (2, 211, 34, 224), (3, 224, 0, 0), (2, 211, 33, 223), (3, 223, 0, 0), (2, 211, 32, 222), (3, 222, 0, 0), (2, 211, 31, 221), (3, 221, 0, 0), (2, 211, 30, 220), (3, 220, 0, 0), (2, 211, 29, 219), (3, 219, 0, 0), (2, 211, 28, 218), (3, 218, 0, 0), (2, 211, 16, 217), (3, 217, 0, 0), (2, 211, 15, 216), (3, 216, 0, 0), (2, 211, 14, 215), (3, 215, 0, 0), (0, 211, 12, -1), (0, 211, 10, -1), (2, 211, 3, 214), (1, 214, 10, 1918987883), (1, 214, 9, 112628846519652), (1, 214, 8, 418346264942), (1, 214, 7, 6518132), (1, 214, 6, 418363302244), (1, 214, 5, 478694368626), (1, 214, 4, 1818324581), (1, 214, 3, 482854658917), (1, 214, 2, 7103847), (1, 214, 1, 1936292453), (1, 214, 0, 499917943912), (3, 214, 0, 0), (2, 211, 2, 213), (1, 213, 4, 6451064), (1, 213, 3, 115918758044773), (1, 213, 2, 6518132), (1, 213, 1, 1818324581), (1, 213, 0, 1685221232), (3, 213, 0, 0), (2, 211, 0, 212), (3, 212, 0, 0), (3, 211, 0, 0)]
def cW : cLg := cW2 ++ cW1
set_option maxRecDepth 100000 in
theorem cIni1 : cRun 2000 147 0 (mjEnt [.ref 0] (mjML 147)) [] 1 [(3, 0, 0, 0)] = some (none, 211, cW1) := cChk_ok (by decide +kernel)
set_option maxRecDepth 100000 in
theorem cIni2 : cRun 2000 194 0 (mjEnt [.ref 211] (mjML 194)) [] 212 ((3, 211, 0, 0) :: cW1) = some (none, 251, cW) := cChk_ok (by decide +kernel)
