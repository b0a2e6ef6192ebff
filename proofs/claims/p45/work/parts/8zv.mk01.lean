/-! the translated methods of the law and of the JDK, 1 -/
def g182_init (sg : Nat → Nat) (a0 : Nat) (Z : mjQ) : Option (Unit × mjQ) :=
  mjBp (qSi Z a0 12 2 ((-1))) fun Z101 =>
  some ((), Z101)
set_option maxRecDepth 100000 in
theorem g182_init_ok {sg : Nat → Nat} {a0 : Nat} {Z : mjQ} {v9 : Unit} {Z9 : mjQ} (h : g182_init sg a0 Z = some (v9, Z9)) : pE sg 2 182 0 (mjEnt [.ref a0] (mjML 182)) [] Z (fun r M1 => r = none ∧ M1 = Z9) := by
  unfold g182_init at h
  show pE sg 2 182 0 [some (.ref a0)] [] Z _
  refine pE_many 1 (pc1 := 1) (L1 := [some (.ref a0)]) (st1 := [.ref a0]) rfl ?_
  refine pE_obj (As := [.ref a0]) (rest := []) (w := 3) rfl (by first | decide | omega) ?_
  refine pE_many 2 (pc1 := 6) (L1 := [some (.ref a0)]) (st1 := [.int ((-1)), .ref a0]) rfl ?_
  cases hq102 : qSi Z a0 12 2 ((-1)) with
  | none => rw [hq102] at h; cases h
  | some Z101 =>
    rw [hq102, mjBp_some] at h
    refine pE_pI rfl rfl (by decide) (by decide) hq102 ?_
    simp only [Option.some.injEq, Prod.mk.injEq] at h
    obtain ⟨-, rfl⟩ := h
    exact pE_ret (r := none) rfl ⟨rfl, rfl⟩
def g183_init (sg : Nat → Nat) (a0 : Nat) (p0 : Nat) (p1 : Int32) (Z : mjQ) : Option (Unit × mjQ) :=
  mjBp (qSi Z a0 13 2 4) fun Z101 =>
  mjBp (qSr Z101 a0 13 0 (some p0)) fun Z103 =>
  mjBp (qSi Z103 a0 13 1 p1) fun Z105 =>
  some ((), Z105)
set_option maxRecDepth 100000 in
theorem g183_init_ok {sg : Nat → Nat} {a0 : Nat} {p0 : Nat} {p1 : Int32} {Z : mjQ} {v9 : Unit} {Z9 : mjQ} (h : g183_init sg a0 p0 p1 Z = some (v9, Z9)) : pE sg 2 183 0 (mjEnt [.ref a0, .ref p0, .int p1] (mjML 183)) [] Z (fun r M1 => r = none ∧ M1 = Z9) := by
  unfold g183_init at h
  show pE sg 2 183 0 [some (.ref a0), some (.ref p0), some (.int p1)] [] Z _
  refine pE_many 1 (pc1 := 1) (L1 := [some (.ref a0), some (.ref p0), some (.int p1)]) (st1 := [.ref a0]) rfl ?_
  refine pE_obj (As := [.ref a0]) (rest := []) (w := 3) rfl (by first | decide | omega) ?_
  refine pE_many 2 (pc1 := 6) (L1 := [some (.ref a0), some (.ref p0), some (.int p1)]) (st1 := [.int 4, .ref a0]) rfl ?_
  cases hq102 : qSi Z a0 13 2 4 with
  | none => rw [hq102] at h; cases h
  | some Z101 =>
    rw [hq102, mjBp_some] at h
    refine pE_pI rfl rfl (by decide) (by decide) hq102 ?_
    refine pE_many 2 (pc1 := 11) (L1 := [some (.ref a0), some (.ref p0), some (.int p1)]) (st1 := [.ref p0, .ref a0]) rfl ?_
    cases hq104 : qSr Z101 a0 13 0 (some p0) with
    | none => rw [hq104] at h; cases h
    | some Z103 =>
      rw [hq104, mjBp_some] at h
      refine pE_pR (o := some p0) rfl rfl (by decide) (by decide) hq104 ?_
      refine pE_many 2 (pc1 := 16) (L1 := [some (.ref a0), some (.ref p0), some (.int p1)]) (st1 := [.int p1, .ref a0]) rfl ?_
      cases hq106 : qSi Z103 a0 13 1 p1 with
      | none => rw [hq106] at h; cases h
      | some Z105 =>
        rw [hq106, mjBp_some] at h
        refine pE_pI rfl rfl (by decide) (by decide) hq106 ?_
        simp only [Option.some.injEq, Prod.mk.injEq] at h
        obtain ⟨-, rfl⟩ := h
        exact pE_ret (r := none) rfl ⟨rfl, rfl⟩
def g184_cell (p0 : Nat) (p1 : Int32) (Z : mjQ) : Option Int32 :=
  mjBp (qLn Z.2 p0) fun v101 =>
  if mjCmp .ge p1 v101 = true then
    some ((1664525 * p1) + 14492)
  else
    mjBp (qIa Z.2 p0 p1) fun v104 =>
    some v104
set_option maxRecDepth 100000 in
theorem g184_cell_ok {sg : Nat → Nat} {p0 : Nat} {p1 : Int32} {Z : mjQ} {v9 : Int32} (h : g184_cell p0 p1 Z = some v9) : pE sg 1 184 0 (mjEnt [.ref p0, .int p1] (mjML 184)) [] Z (fun r M1 => r = some (.int v9) ∧ M1 = Z) := by
  unfold g184_cell at h
  show pE sg 1 184 0 [some (.ref p0), some (.int p1)] [] Z _
  refine pE_many 2 (pc1 := 2) (L1 := [some (.ref p0), some (.int p1)]) (st1 := [.ref p0, .int p1]) rfl ?_
  cases hq102 : qLn Z.2 p0 with
  | none => rw [hq102] at h; cases h
  | some v101 =>
    rw [hq102, mjBp_some] at h
    refine pE_len rfl hq102 ?_
    by_cases hc103 : mjCmp .ge p1 v101 = true
    · rw [if_pos hc103] at h
      refine pE_cmt (t := 12) rfl rfl hc103 ?_
      refine pE_many 5 (pc1 := 20) (L1 := [some (.ref p0), some (.int p1)]) (st1 := [.int ((1664525 * p1) + 14492)]) rfl ?_
      simp only [Option.some.injEq] at h
      subst h
      exact pE_ret (r := some (.int ((1664525 * p1) + 14492))) rfl ⟨rfl, rfl⟩
    · rw [if_neg hc103] at h
      refine pE_cmf (t := 12) rfl rfl hc103 ?_
      refine pE_many 2 (pc1 := 8) (L1 := [some (.ref p0), some (.int p1)]) (st1 := [.int p1, .ref p0]) rfl ?_
      cases hq105 : qIa Z.2 p0 p1 with
      | none => rw [hq105] at h; cases h
      | some v104 =>
        rw [hq105, mjBp_some] at h
        refine pE_ial rfl hq105 ?_
        refine pE_many 1 (pc1 := 20) (L1 := [some (.ref p0), some (.int p1)]) (st1 := [.int v104]) rfl ?_
        simp only [Option.some.injEq] at h
        subst h
        exact pE_ret (r := some (.int v104)) rfl ⟨rfl, rfl⟩
def g185_pick (p0 : Nat) (p1 : Int32) (p2 : Int32) (Z : mjQ) : Option Int32 :=
  mjBp (g184_cell p0 p1 Z) fun v102 =>
  if ¬ p2 = 0 then
  some ((v102 &&& 2147483647) - (v102 &&& 2147483647) / p2 * p2)
  else none
set_option maxRecDepth 100000 in
theorem g185_pick_ok {sg : Nat → Nat} {p0 : Nat} {p1 : Int32} {p2 : Int32} {Z : mjQ} {v9 : Int32} (h : g185_pick p0 p1 p2 Z = some v9) : pE sg 2 185 0 (mjEnt [.ref p0, .int p1, .int p2] (mjML 185)) [] Z (fun r M1 => r = some (.int v9) ∧ M1 = Z) := by
  unfold g185_pick at h
  show pE sg 2 185 0 [some (.ref p0), some (.int p1), some (.int p2)] [] Z _
  refine pE_many 2 (pc1 := 2) (L1 := [some (.ref p0), some (.int p1), some (.int p2)]) (st1 := [.int p1, .ref p0]) rfl ?_
  cases hq101 : g184_cell p0 p1 Z with
  | none => rw [hq101] at h; cases h
  | some v102 =>
    rw [hq101, mjBp_some] at h
    refine pE_call (k2 := 184) (As := [.ref p0, .int p1]) (rest := []) (w := 3) rfl (by decide) (by decide) (g184_cell_ok hq101) ?_
    show pE sg 2 185 5 [some (.ref p0), some (.int p1), some (.int p2)] [.int v102] Z _
    refine pE_many 3 (pc1 := 9) (L1 := [some (.ref p0), some (.int p1), some (.int p2)]) (st1 := [.int p2, .int (v102 &&& 2147483647)]) rfl ?_
    have hk104 : ¬ p2 = 0 := by
      by_cases q9 : ¬ p2 = 0
      · exact q9
      · rw [if_neg q9] at h; cases h
    rw [if_pos hk104] at h
    refine pE_rem rfl hk104 ?_
    simp only [Option.some.injEq] at h
    subst h
    exact pE_ret (r := some (.int ((v102 &&& 2147483647) - (v102 &&& 2147483647) / p2 * p2))) rfl ⟨rfl, rfl⟩
def g186_next (sg : Nat → Nat) (a0 : Nat) (p0 : Int32) (Z : mjQ) : Option (Int32 × mjQ) :=
  mjBp (qI Z.2 a0 13 1) fun v101 =>
  mjBp (qSi Z a0 13 1 (v101 + 1)) fun Z103 =>
  mjBp (qR Z103.2 a0 13 0) fun v105 =>
  mjBp (qI Z103.2 a0 13 1) fun v107 =>
  mjBp (g185_pick v105 v107 p0 Z103) fun v110 =>
  some (v110, Z103)
set_option maxRecDepth 100000 in
theorem g186_next_ok {sg : Nat → Nat} {a0 : Nat} {p0 : Int32} {Z : mjQ} {v9 : Int32} {Z9 : mjQ} (h : g186_next sg a0 p0 Z = some (v9, Z9)) : pE sg 3 186 0 (mjEnt [.ref a0, .int p0] (mjML 186)) [] Z (fun r M1 => r = some (.int v9) ∧ M1 = Z9) := by
  unfold g186_next at h
  show pE sg 3 186 0 [some (.ref a0), some (.int p0)] [] Z _
  refine pE_many 2 (pc1 := 2) (L1 := [some (.ref a0), some (.int p0)]) (st1 := [.ref a0, .ref a0]) rfl ?_
  cases hq102 : qI Z.2 a0 13 1 with
  | none => rw [hq102] at h; cases h
  | some v101 =>
    rw [hq102, mjBp_some] at h
    refine pE_gI rfl rfl hq102 ?_
    refine pE_many 2 (pc1 := 7) (L1 := [some (.ref a0), some (.int p0)]) (st1 := [.int (v101 + 1), .ref a0]) rfl ?_
    cases hq104 : qSi Z a0 13 1 (v101 + 1) with
    | none => rw [hq104] at h; cases h
    | some Z103 =>
      rw [hq104, mjBp_some] at h
      refine pE_pI rfl rfl (by decide) (by decide) hq104 ?_
      refine pE_many 1 (pc1 := 11) (L1 := [some (.ref a0), some (.int p0)]) (st1 := [.ref a0]) rfl ?_
      cases hq106 : qR Z103.2 a0 13 0 with
      | none => rw [hq106] at h; cases h
      | some v105 =>
        rw [hq106, mjBp_some] at h
        refine pE_gR rfl rfl hq106 ?_
        refine pE_many 1 (pc1 := 15) (L1 := [some (.ref a0), some (.int p0)]) (st1 := [.ref a0, .ref v105]) rfl ?_
        cases hq108 : qI Z103.2 a0 13 1 with
        | none => rw [hq108] at h; cases h
        | some v107 =>
          rw [hq108, mjBp_some] at h
          refine pE_gI rfl rfl hq108 ?_
          refine pE_many 1 (pc1 := 19) (L1 := [some (.ref a0), some (.int p0)]) (st1 := [.int p0, .int v107, .ref v105]) rfl ?_
          cases hq109 : g185_pick v105 v107 p0 Z103 with
          | none => rw [hq109] at h; cases h
          | some v110 =>
            rw [hq109, mjBp_some] at h
            refine pE_call (k2 := 185) (As := [.ref v105, .int v107, .int p0]) (rest := []) (w := 3) rfl (by decide) (by decide) (g185_pick_ok hq109) ?_
            show pE sg 3 186 22 [some (.ref a0), some (.int p0)] [.int v110] Z103 _
            simp only [Option.some.injEq, Prod.mk.injEq] at h
            obtain ⟨rfl, rfl⟩ := h
            exact pE_ret (r := some (.int v110)) rfl ⟨rfl, rfl⟩
def g187_init (sg : Nat → Nat) (a0 : Nat) (p0 : Nat) (p1 : Int32) (p2 : Option Nat) (p3 : Option Nat) (Z : mjQ) : Option (Unit × mjQ) :=
  mjBp (qSr Z a0 14 0 (some p0)) fun Z101 =>
  mjBp (qSi Z101 a0 14 1 p1) fun Z103 =>
  mjBp (qSr Z103 a0 14 2 p2) fun Z105 =>
  mjBp (qSr Z105 a0 14 3 p3) fun Z107 =>
  some ((), Z107)
set_option maxRecDepth 100000 in
theorem g187_init_ok {sg : Nat → Nat} {a0 : Nat} {p0 : Nat} {p1 : Int32} {p2 : Option Nat} {p3 : Option Nat} {Z : mjQ} {v9 : Unit} {Z9 : mjQ} (h : g187_init sg a0 p0 p1 p2 p3 Z = some (v9, Z9)) : pE sg 2 187 0 (mjEnt [.ref a0, .ref p0, .int p1, va_rf p2, va_rf p3] (mjML 187)) [] Z (fun r M1 => r = none ∧ M1 = Z9) := by
  unfold g187_init at h
  rw [show mjEnt [.ref a0, .ref p0, .int p1, va_rf p2, va_rf p3] (mjML 187) = [some (.ref a0), some (.ref p0), some (.int p1), some (va_rf p2), some (va_rf p3)] from by cases p2 <;> cases p3 <;> rfl]
  show pE sg 2 187 0 [some (.ref a0), some (.ref p0), some (.int p1), some (va_rf p2), some (va_rf p3)] [] Z _
  refine pE_many 1 (pc1 := 1) (L1 := [some (.ref a0), some (.ref p0), some (.int p1), some (va_rf p2), some (va_rf p3)]) (st1 := [.ref a0]) rfl ?_
  refine pE_obj (As := [.ref a0]) (rest := []) (w := 3) rfl (by first | decide | omega) ?_
  refine pE_many 2 (pc1 := 6) (L1 := [some (.ref a0), some (.ref p0), some (.int p1), some (va_rf p2), some (va_rf p3)]) (st1 := [.ref p0, .ref a0]) rfl ?_
  cases hq102 : qSr Z a0 14 0 (some p0) with
  | none => rw [hq102] at h; cases h
  | some Z101 =>
    rw [hq102, mjBp_some] at h
    refine pE_pR (o := some p0) rfl rfl (by decide) (by decide) hq102 ?_
    refine pE_many 2 (pc1 := 11) (L1 := [some (.ref a0), some (.ref p0), some (.int p1), some (va_rf p2), some (va_rf p3)]) (st1 := [.int p1, .ref a0]) rfl ?_
    cases hq104 : qSi Z101 a0 14 1 p1 with
    | none => rw [hq104] at h; cases h
    | some Z103 =>
      rw [hq104, mjBp_some] at h
      refine pE_pI rfl rfl (by decide) (by decide) hq104 ?_
      refine pE_many 1 (pc1 := 15) (L1 := [some (.ref a0), some (.ref p0), some (.int p1), some (va_rf p2), some (va_rf p3)]) (st1 := [.ref a0]) rfl ?_
      refine pE_aln (o := p2) rfl rfl ?_
      cases hq106 : qSr Z103 a0 14 2 p2 with
      | none => rw [hq106] at h; cases h
      | some Z105 =>
        rw [hq106, mjBp_some] at h
        refine pE_pR (o := p2) rfl rfl (by decide) (by decide) hq106 ?_
        refine pE_many 1 (pc1 := 20) (L1 := [some (.ref a0), some (.ref p0), some (.int p1), some (va_rf p2), some (va_rf p3)]) (st1 := [.ref a0]) rfl ?_
        refine pE_al2 (o := p3) rfl rfl ?_
        cases hq108 : qSr Z105 a0 14 3 p3 with
        | none => rw [hq108] at h; cases h
        | some Z107 =>
          rw [hq108, mjBp_some] at h
          refine pE_pR (o := p3) rfl rfl (by decide) (by decide) hq108 ?_
          simp only [Option.some.injEq, Prod.mk.injEq] at h
          obtain ⟨-, rfl⟩ := h
          exact pE_ret (r := none) rfl ⟨rfl, rfl⟩
def g255_newLength (p0 : Int32) (p1 : Int32) (p2 : Int32) (Z : mjQ) : Option Int32 :=
  if mjCmp .ge 0 (p0 + (mjMax p1 p2)) = true then
    none
  else
    if mjCmp .gt (p0 + (mjMax p1 p2)) 2147483639 = true then
      none
    else
      some (p0 + (mjMax p1 p2))
theorem g255_newLength_ok {sg : Nat → Nat} {p0 : Int32} {p1 : Int32} {p2 : Int32} {Z : mjQ} {v9 : Int32} (h : g255_newLength p0 p1 p2 Z = some v9) : pE sg 2 255 0 (mjEnt [.int p0, .int p1, .int p2] (mjML 255)) [] Z (fun r M1 => r = some (.int v9) ∧ M1 = Z) := by
  unfold g255_newLength at h
  show pE sg 2 255 0 [some (.int p0), some (.int p1), some (.int p2), none] [] Z _
  refine pE_many 3 (pc1 := 3) (L1 := [some (.int p0), some (.int p1), some (.int p2), none]) (st1 := [.int p2, .int p1, .int p0]) rfl ?_
  refine pE_prim (v := .int (mjMax p1 p2)) (w := 3) rfl (by decide) (by decide) rfl ?_
  refine pE_many 4 (pc1 := 10) (L1 := [some (.int p0), some (.int p1), some (.int p2), some (.int (p0 + (mjMax p1 p2)))]) (st1 := [.int (p0 + (mjMax p1 p2)), .int 0]) rfl ?_
  by_cases hc101 : mjCmp .ge 0 (p0 + (mjMax p1 p2)) = true
  · rw [if_pos hc101] at h
    refine pE_cmt (t := 21) rfl rfl hc101 ?_
    refine pE_many 2 (pc1 := 23) (L1 := [some (.int p0), some (.int p1), some (.int p2), some (.int (p0 + (mjMax p1 p2)))]) (st1 := [.int p1, .int p0]) rfl ?_
    cases h
  · rw [if_neg hc101] at h
    refine pE_cmf (t := 21) rfl rfl hc101 ?_
    refine pE_many 2 (pc1 := 16) (L1 := [some (.int p0), some (.int p1), some (.int p2), some (.int (p0 + (mjMax p1 p2)))]) (st1 := [.int 2147483639, .int (p0 + (mjMax p1 p2))]) rfl ?_
    by_cases hc102 : mjCmp .gt (p0 + (mjMax p1 p2)) 2147483639 = true
    · rw [if_pos hc102] at h
      refine pE_cmt (t := 21) rfl rfl hc102 ?_
      refine pE_many 2 (pc1 := 23) (L1 := [some (.int p0), some (.int p1), some (.int p2), some (.int (p0 + (mjMax p1 p2)))]) (st1 := [.int p1, .int p0]) rfl ?_
      cases h
    · rw [if_neg hc102] at h
      refine pE_cmf (t := 21) rfl rfl hc102 ?_
      refine pE_many 1 (pc1 := 20) (L1 := [some (.int p0), some (.int p1), some (.int p2), some (.int (p0 + (mjMax p1 p2)))]) (st1 := [.int (p0 + (mjMax p1 p2))]) rfl ?_
      simp only [Option.some.injEq] at h
      subst h
      exact pE_ret (r := some (.int (p0 + (mjMax p1 p2)))) rfl ⟨rfl, rfl⟩
def g217_newCapacity (sg : Nat → Nat) (a0 : Nat) (p0 : Int32) (Z : mjQ) : Option (Int32 × mjQ) :=
  mjBp (qR Z.2 a0 19 0) fun v101 =>
  mjBp (qLn Z.2 v101) fun v103 =>
  mjBp (qI Z.2 a0 19 1) fun v105 =>
  mjBp (g255_newLength v103 (((p0 : Int32) <<< ((v105 : Int32) &&& 31)) - v103) (v103 + ((2 : Int32) <<< ((v105 : Int32) &&& 31))) Z) fun v110 =>
  if mjCmp .ne v110 2147483647 = true then
    some ((v110 : Int32) >>> ((v105 : Int32) &&& 31), Z)
  else
    none
theorem g217_newCapacity_ok {sg : Nat → Nat} {a0 : Nat} {p0 : Int32} {Z : mjQ} {v9 : Int32} {Z9 : mjQ} (h : g217_newCapacity sg a0 p0 Z = some (v9, Z9)) : pE sg 3 217 0 (mjEnt [.ref a0, .int p0] (mjML 217)) [] Z (fun r M1 => r = some (.int v9) ∧ M1 = Z9) := by
  unfold g217_newCapacity at h
  show pE sg 3 217 0 [some (.ref a0), some (.int p0), none, none, none, none] [] Z _
  refine pE_many 1 (pc1 := 1) (L1 := [some (.ref a0), some (.int p0), none, none, none, none]) (st1 := [.ref a0]) rfl ?_
  cases hq102 : qR Z.2 a0 19 0 with
  | none => rw [hq102] at h; cases h
  | some v101 =>
    rw [hq102, mjBp_some] at h
    refine pE_gR rfl rfl hq102 ?_
    cases hq104 : qLn Z.2 v101 with
    | none => rw [hq104] at h; cases h
    | some v103 =>
      rw [hq104, mjBp_some] at h
      refine pE_len rfl hq104 ?_
      refine pE_many 3 (pc1 := 8) (L1 := [some (.ref a0), some (.int p0), some (.int v103), none, none, none]) (st1 := [.ref a0, .int p0]) rfl ?_
      cases hq106 : qI Z.2 a0 19 1 with
      | none => rw [hq106] at h; cases h
      | some v105 =>
        rw [hq106, mjBp_some] at h
        refine pE_gI rfl rfl hq106 ?_
        refine pE_many 11 (pc1 := 24) (L1 := [some (.ref a0), some (.int p0), some (.int v103), some (.int ((p0 : Int32) <<< ((v105 : Int32) &&& 31))), some (.int (((p0 : Int32) <<< ((v105 : Int32) &&& 31)) - v103)), none]) (st1 := [.ref a0, .int 2, .int v103, .int (((p0 : Int32) <<< ((v105 : Int32) &&& 31)) - v103), .int v103]) rfl ?_
        refine pE_gI rfl rfl hq106 ?_
        refine pE_many 2 (pc1 := 29) (L1 := [some (.ref a0), some (.int p0), some (.int v103), some (.int ((p0 : Int32) <<< ((v105 : Int32) &&& 31))), some (.int (((p0 : Int32) <<< ((v105 : Int32) &&& 31)) - v103)), none]) (st1 := [.int (v103 + ((2 : Int32) <<< ((v105 : Int32) &&& 31))), .int (((p0 : Int32) <<< ((v105 : Int32) &&& 31)) - v103), .int v103]) rfl ?_
        cases hq109 : g255_newLength v103 (((p0 : Int32) <<< ((v105 : Int32) &&& 31)) - v103) (v103 + ((2 : Int32) <<< ((v105 : Int32) &&& 31))) Z with
        | none => rw [hq109] at h; cases h
        | some v110 =>
          rw [hq109, mjBp_some] at h
          refine pE_call (k2 := 255) (As := [.int v103, .int (((p0 : Int32) <<< ((v105 : Int32) &&& 31)) - v103), .int (v103 + ((2 : Int32) <<< ((v105 : Int32) &&& 31)))]) (rest := []) (w := 3) rfl (by decide) (by decide) (g255_newLength_ok hq109) ?_
          show pE sg 3 217 32 [some (.ref a0), some (.int p0), some (.int v103), some (.int ((p0 : Int32) <<< ((v105 : Int32) &&& 31))), some (.int (((p0 : Int32) <<< ((v105 : Int32) &&& 31)) - v103)), none] [.int v110] Z _
          refine pE_many 3 (pc1 := 38) (L1 := [some (.ref a0), some (.int p0), some (.int v103), some (.int ((p0 : Int32) <<< ((v105 : Int32) &&& 31))), some (.int (((p0 : Int32) <<< ((v105 : Int32) &&& 31)) - v103)), some (.int v110)]) (st1 := [.int 2147483647, .int v110]) rfl ?_
          by_cases hc112 : mjCmp .ne v110 2147483647 = true
          · rw [if_pos hc112] at h
            refine pE_cmt (t := 51) rfl rfl hc112 ?_
            refine pE_many 2 (pc1 := 54) (L1 := [some (.ref a0), some (.int p0), some (.int v103), some (.int ((p0 : Int32) <<< ((v105 : Int32) &&& 31))), some (.int (((p0 : Int32) <<< ((v105 : Int32) &&& 31)) - v103)), some (.int v110)]) (st1 := [.ref a0, .int v110]) rfl ?_
            refine pE_gI rfl rfl hq106 ?_
            refine pE_many 1 (pc1 := 58) (L1 := [some (.ref a0), some (.int p0), some (.int v103), some (.int ((p0 : Int32) <<< ((v105 : Int32) &&& 31))), some (.int (((p0 : Int32) <<< ((v105 : Int32) &&& 31)) - v103)), some (.int v110)]) (st1 := [.int ((v110 : Int32) >>> ((v105 : Int32) &&& 31))]) rfl ?_
            simp only [Option.some.injEq, Prod.mk.injEq] at h
            obtain ⟨rfl, rfl⟩ := h
            exact pE_ret (r := some (.int ((v110 : Int32) >>> ((v105 : Int32) &&& 31)))) rfl ⟨rfl, rfl⟩
          · rw [if_neg hc112] at h
            refine pE_cmf (t := 51) rfl rfl hc112 ?_
            cases h
def g251_copyOf (sg : Nat → Nat) (p0 : Nat) (p1 : Int32) (Z : mjQ) : Option (Nat × mjQ) :=
  mjBp (qLn Z.2 p0) fun v101 =>
  if mjCmp .ne p1 v101 = true then
    mjBq (qNewA sg Z 118 p1) fun v104 Z106 =>
    mjBp (qLn Z106.2 p0) fun v107 =>
    mjBp (qCp 251 [.ref p0, .int 0, .ref v104, .int 0, .int (mjMin v107 p1)] Z106) fun Z110 =>
    some (v104, Z110)
  else
    mjBq (qCln sg 251 p0 Z) fun v112 Z113 =>
    if mjKs Z113.2 v112 118 = true then
    some (v112, Z113)
    else none
theorem g251_copyOf_ok {sg : Nat → Nat} {p0 : Nat} {p1 : Int32} {Z : mjQ} {v9 : Nat} {Z9 : mjQ} (h : g251_copyOf sg p0 p1 Z = some (v9, Z9)) : pE sg 2 251 0 (mjEnt [.ref p0, .int p1] (mjML 251)) [] Z (fun r M1 => r = some (.ref v9) ∧ M1 = Z9) := by
  unfold g251_copyOf at h
  show pE sg 2 251 0 [some (.ref p0), some (.int p1), none] [] Z _
  refine pE_many 2 (pc1 := 2) (L1 := [some (.ref p0), some (.int p1), none]) (st1 := [.ref p0, .int p1]) rfl ?_
  cases hq102 : qLn Z.2 p0 with
  | none => rw [hq102] at h; cases h
  | some v101 =>
    rw [hq102, mjBp_some] at h
    refine pE_len rfl hq102 ?_
    by_cases hc103 : mjCmp .ne p1 v101 = true
    · rw [if_pos hc103] at h
      refine pE_cmt (t := 14) rfl rfl hc103 ?_
      refine pE_many 1 (pc1 := 15) (L1 := [some (.ref p0), some (.int p1), none]) (st1 := [.int p1]) rfl ?_
      cases hq105 : qNewA sg Z 118 p1 with
      | none => rw [hq105] at h; cases h
      | some w =>
        obtain ⟨v104, Z106⟩ := w
        rw [hq105, mjBq_some] at h
        refine pE_newA rfl rfl rfl rfl rfl (by decide) hq105 ?_
        refine pE_many 6 (pc1 := 23) (L1 := [some (.ref p0), some (.int p1), some (.ref v104)]) (st1 := [.ref p0, .int 0, .ref v104, .int 0, .ref p0]) rfl ?_
        cases hq108 : qLn Z106.2 p0 with
        | none => rw [hq108] at h; cases h
        | some v107 =>
          rw [hq108, mjBp_some] at h
          refine pE_len rfl hq108 ?_
          refine pE_many 1 (pc1 := 25) (L1 := [some (.ref p0), some (.int p1), some (.ref v104)]) (st1 := [.int p1, .int v107, .int 0, .ref v104, .int 0, .ref p0]) rfl ?_
          refine pE_prim (v := .int (mjMin v107 p1)) (w := 3) rfl (by decide) (by decide) rfl ?_
          cases hq109 : qCp 251 [.ref p0, .int 0, .ref v104, .int 0, .int (mjMin v107 p1)] Z106 with
          | none => rw [hq109] at h; cases h
          | some Z110 =>
            rw [hq109, mjBp_some] at h
            refine pE_acp (As := [.ref p0, .int 0, .ref v104, .int 0, .int (mjMin v107 p1)]) (rest := []) (w := 3) rfl (by decide) hq109 ?_
            refine pE_many 1 (pc1 := 32) (L1 := [some (.ref p0), some (.int p1), some (.ref v104)]) (st1 := [.ref v104]) rfl ?_
            simp only [Option.some.injEq, Prod.mk.injEq] at h
            obtain ⟨rfl, rfl⟩ := h
            exact pE_ret (r := some (.ref v104)) rfl ⟨rfl, rfl⟩
    · rw [if_neg hc103] at h
      refine pE_cmf (t := 14) rfl rfl hc103 ?_
      refine pE_many 1 (pc1 := 7) (L1 := [some (.ref p0), some (.int p1), none]) (st1 := [.ref p0]) rfl ?_
      cases hq111 : qCln sg 251 p0 Z with
      | none => rw [hq111] at h; cases h
      | some w =>
        obtain ⟨v112, Z113⟩ := w
        rw [hq111, mjBq_some] at h
        refine pE_cln (rest := []) (w := 3) rfl (by decide) hq111 ?_
        have hk114 : mjKs Z113.2 v112 118 = true := by
          by_cases q9 : mjKs Z113.2 v112 118 = true
          · exact q9
          · rw [if_neg q9] at h; cases h
        rw [if_pos hk114] at h
        refine pE_cast rfl (Or.inr (Or.inr (Or.inr ⟨rfl, hk114⟩))) ?_
        simp only [Option.some.injEq, Prod.mk.injEq] at h
        obtain ⟨rfl, rfl⟩ := h
        exact pE_ret (r := some (.ref v112)) rfl ⟨rfl, rfl⟩
def g209_ensureCapacityInternal (sg : Nat → Nat) (a0 : Nat) (p0 : Int32) (Z : mjQ) : Option (Unit × mjQ) :=
  mjBp (qR Z.2 a0 19 0) fun v101 =>
  mjBp (qLn Z.2 v101) fun v103 =>
  mjBp (qI Z.2 a0 19 1) fun v105 =>
  if mjCmp .le (p0 - ((v103 : Int32) >>> ((v105 : Int32) &&& 31))) 0 = true then
    some ((), Z)
  else
    if mjRo Z.2 a0 19 = true then
    mjBq (g217_newCapacity sg a0 p0 Z) fun v112 Z113 =>
    mjBp (qI Z113.2 a0 19 1) fun v114 =>
    mjBq (g251_copyOf sg v101 ((v112 : Int32) <<< ((v114 : Int32) &&& 31)) Z113) fun v117 Z118 =>
    mjBp (qSr Z118 a0 19 0 (some v117)) fun Z119 =>
    some ((), Z119)
    else none
theorem g209_ensureCapacityInternal_ok {sg : Nat → Nat} {a0 : Nat} {p0 : Int32} {Z : mjQ} {v9 : Unit} {Z9 : mjQ} (h : g209_ensureCapacityInternal sg a0 p0 Z = some (v9, Z9)) : pE sg 4 209 0 (mjEnt [.ref a0, .int p0] (mjML 209)) [] Z (fun r M1 => r = none ∧ M1 = Z9) := by
  unfold g209_ensureCapacityInternal at h
  show pE sg 4 209 0 [some (.ref a0), some (.int p0), none] [] Z _
  refine pE_many 1 (pc1 := 1) (L1 := [some (.ref a0), some (.int p0), none]) (st1 := [.ref a0]) rfl ?_
  cases hq102 : qR Z.2 a0 19 0 with
  | none => rw [hq102] at h; cases h
  | some v101 =>
    rw [hq102, mjBp_some] at h
    refine pE_gR rfl rfl hq102 ?_
    cases hq104 : qLn Z.2 v101 with
    | none => rw [hq104] at h; cases h
    | some v103 =>
      rw [hq104, mjBp_some] at h
      refine pE_len rfl hq104 ?_
      refine pE_many 1 (pc1 := 6) (L1 := [some (.ref a0), some (.int p0), none]) (st1 := [.ref a0, .int v103]) rfl ?_
      cases hq106 : qI Z.2 a0 19 1 with
      | none => rw [hq106] at h; cases h
      | some v105 =>
        rw [hq106, mjBp_some] at h
        refine pE_gI rfl rfl hq106 ?_
        refine pE_many 5 (pc1 := 14) (L1 := [some (.ref a0), some (.int p0), some (.int ((v103 : Int32) >>> ((v105 : Int32) &&& 31)))]) (st1 := [.int (p0 - ((v103 : Int32) >>> ((v105 : Int32) &&& 31)))]) rfl ?_
        by_cases hc107 : mjCmp .le (p0 - ((v103 : Int32) >>> ((v105 : Int32) &&& 31))) 0 = true
        · rw [if_pos hc107] at h
          refine pE_ift (t := 38) rfl rfl hc107 ?_
          simp only [Option.some.injEq, Prod.mk.injEq] at h
          obtain ⟨-, rfl⟩ := h
          exact pE_ret (r := none) rfl ⟨rfl, rfl⟩
        · rw [if_neg hc107] at h
          refine pE_iff (t := 38) rfl rfl hc107 ?_
          refine pE_many 2 (pc1 := 19) (L1 := [some (.ref a0), some (.int p0), some (.int ((v103 : Int32) >>> ((v105 : Int32) &&& 31)))]) (st1 := [.ref a0, .ref a0]) rfl ?_
          refine pE_gR rfl rfl hq102 ?_
          refine pE_many 2 (pc1 := 24) (L1 := [some (.ref a0), some (.int p0), some (.int ((v103 : Int32) >>> ((v105 : Int32) &&& 31)))]) (st1 := [.int p0, .ref a0, .ref v101, .ref a0]) rfl ?_
          have hk110 : mjRo Z.2 a0 19 = true := by
            by_cases q9 : mjRo Z.2 a0 19 = true
            · exact q9
            · rw [if_neg q9] at h; cases h
          rw [if_pos hk110] at h
          cases hq111 : g217_newCapacity sg a0 p0 Z with
          | none => rw [hq111] at h; cases h
          | some w =>
            obtain ⟨v112, Z113⟩ := w
            rw [hq111, mjBq_some] at h
            refine pE_callV (k2 := 217) (As := [.int p0]) (rest := [.ref v101, .ref a0]) rfl rfl rfl rfl rfl rfl hk110 (by decide) (by decide) (by decide) (g217_newCapacity_ok hq111) ?_
            show pE sg 4 209 27 [some (.ref a0), some (.int p0), some (.int ((v103 : Int32) >>> ((v105 : Int32) &&& 31)))] [.int v112, .ref v101, .ref a0] Z113 _
            refine pE_many 1 (pc1 := 28) (L1 := [some (.ref a0), some (.int p0), some (.int ((v103 : Int32) >>> ((v105 : Int32) &&& 31)))]) (st1 := [.ref a0, .int v112, .ref v101, .ref a0]) rfl ?_
            cases hq115 : qI Z113.2 a0 19 1 with
            | none => rw [hq115] at h; cases h
            | some v114 =>
              rw [hq115, mjBp_some] at h
              refine pE_gI rfl rfl hq115 ?_
              refine pE_many 1 (pc1 := 32) (L1 := [some (.ref a0), some (.int p0), some (.int ((v103 : Int32) >>> ((v105 : Int32) &&& 31)))]) (st1 := [.int ((v112 : Int32) <<< ((v114 : Int32) &&& 31)), .ref v101, .ref a0]) rfl ?_
              cases hq116 : g251_copyOf sg v101 ((v112 : Int32) <<< ((v114 : Int32) &&& 31)) Z113 with
              | none => rw [hq116] at h; cases h
              | some w =>
                obtain ⟨v117, Z118⟩ := w
                rw [hq116, mjBq_some] at h
                refine pE_call (k2 := 251) (As := [.ref v101, .int ((v112 : Int32) <<< ((v114 : Int32) &&& 31))]) (rest := [.ref a0]) (w := 3) rfl (by decide) (by decide) (g251_copyOf_ok hq116) ?_
                show pE sg 4 209 35 [some (.ref a0), some (.int p0), some (.int ((v103 : Int32) >>> ((v105 : Int32) &&& 31)))] [.ref v117, .ref a0] Z118 _
                cases hq120 : qSr Z118 a0 19 0 (some v117) with
                | none => rw [hq120] at h; cases h
                | some Z119 =>
                  rw [hq120, mjBp_some] at h
                  refine pE_pR (o := some v117) rfl rfl (by decide) (by decide) hq120 ?_
                  simp only [Option.some.injEq, Prod.mk.injEq] at h
                  obtain ⟨-, rfl⟩ := h
                  exact pE_ret (r := none) rfl ⟨rfl, rfl⟩
def g215_isLatin1 (a0 : Nat) (Z : mjQ) : Option Int32 :=
  if mjCmp .eq 1 0 = true then
    some 0
  else
    mjBp (qI Z.2 a0 19 1) fun v102 =>
    if mjCmp .ne v102 0 = true then
      some 0
    else
      some 1
theorem g215_isLatin1_ok {sg : Nat → Nat} {a0 : Nat} {Z : mjQ} {v9 : Int32} (h : g215_isLatin1 a0 Z = some v9) : pE sg 1 215 0 (mjEnt [.ref a0] (mjML 215)) [] Z (fun r M1 => r = some (.int v9) ∧ M1 = Z) := by
  unfold g215_isLatin1 at h
  show pE sg 1 215 0 [some (.ref a0)] [] Z _
  refine pE_many 1 (pc1 := 3) (L1 := [some (.ref a0)]) (st1 := [.int 1]) rfl ?_
  by_cases hc101 : mjCmp .eq 1 0 = true
  · rw [if_pos hc101] at h
    refine pE_ift (t := 17) rfl rfl hc101 ?_
    refine pE_many 1 (pc1 := 18) (L1 := [some (.ref a0)]) (st1 := [.int 0]) rfl ?_
    simp only [Option.some.injEq] at h
    subst h
    exact pE_ret (r := some (.int 0)) rfl ⟨rfl, rfl⟩
  · rw [if_neg hc101] at h
    refine pE_iff (t := 17) rfl rfl hc101 ?_
    refine pE_many 1 (pc1 := 7) (L1 := [some (.ref a0)]) (st1 := [.ref a0]) rfl ?_
    cases hq103 : qI Z.2 a0 19 1 with
    | none => rw [hq103] at h; cases h
    | some v102 =>
      rw [hq103, mjBp_some] at h
      refine pE_gI rfl rfl hq103 ?_
      by_cases hc104 : mjCmp .ne v102 0 = true
      · rw [if_pos hc104] at h
        refine pE_ift (t := 17) rfl rfl hc104 ?_
        refine pE_many 1 (pc1 := 18) (L1 := [some (.ref a0)]) (st1 := [.int 0]) rfl ?_
        simp only [Option.some.injEq] at h
        subst h
        exact pE_ret (r := some (.int 0)) rfl ⟨rfl, rfl⟩
      · rw [if_neg hc104] at h
        refine pE_iff (t := 17) rfl rfl hc104 ?_
        refine pE_many 2 (pc1 := 18) (L1 := [some (.ref a0)]) (st1 := [.int 1]) rfl ?_
        simp only [Option.some.injEq] at h
        subst h
        exact pE_ret (r := some (.int 1)) rfl ⟨rfl, rfl⟩
def g220_getChars_j104 (sg : Nat → Nat) (x2 : Nat) (x5 : Int32) (x6 : Int32) (Z : mjQ) : Option (Int32 × mjQ) :=
  if mjCmp .eq x6 0 = true then
    some (x5, Z)
  else
    mjBp (qSba Z x2 (x5 + (-1)) 45) fun Z110 =>
    some (x5 + (-1), Z110)
theorem g220_getChars_j104_ok {sg : Nat → Nat} (x2 : Nat) (x5 : Int32) (x6 : Int32) (d0 d1 d3 d4 : Option Value) (Z : mjQ) (v9 : Int32) (Z9 : mjQ) (h : g220_getChars_j104 sg x2 x5 x6 Z = some (v9, Z9)) : pE sg 1 220 104 [d0, d1, some (.ref x2), d3, d4, some (.int x5), some (.int x6)] [] Z (fun r M1 => r = some (.int v9) ∧ M1 = Z9) := by
  unfold g220_getChars_j104 at h
  refine pE_many 1 (pc1 := 106) (L1 := [d0, d1, some (.ref x2), d3, d4, some (.int x5), some (.int x6)]) (st1 := [.int x6]) rfl ?_
  by_cases hc109 : mjCmp .eq x6 0 = true
  · rw [if_pos hc109] at h
    refine pE_ift (t := 118) rfl rfl hc109 ?_
    refine pE_many 1 (pc1 := 120) (L1 := [d0, d1, some (.ref x2), d3, d4, some (.int x5), some (.int x6)]) (st1 := [.int x5]) rfl ?_
    simp only [Option.some.injEq, Prod.mk.injEq] at h
    obtain ⟨rfl, rfl⟩ := h
    exact pE_ret (r := some (.int x5)) rfl ⟨rfl, rfl⟩
  · rw [if_neg hc109] at h
    refine pE_iff (t := 118) rfl rfl hc109 ?_
    refine pE_many 4 (pc1 := 117) (L1 := [d0, d1, some (.ref x2), d3, (mjK1 d4), some (.int (x5 + (-1))), some (.int x6)]) (st1 := [.int 45, .int (x5 + (-1)), .ref x2]) rfl ?_
    cases hq111 : qSba Z x2 (x5 + (-1)) 45 with
    | none => rw [hq111] at h; cases h
    | some Z110 =>
      rw [hq111, mjBp_some] at h
      refine pE_bas rfl (by decide) hq111 ?_
      refine pE_many 1 (pc1 := 120) (L1 := [d0, d1, some (.ref x2), d3, (mjK1 d4), some (.int (x5 + (-1))), some (.int x6)]) (st1 := [.int (x5 + (-1))]) rfl ?_
      simp only [Option.some.injEq, Prod.mk.injEq] at h
      obtain ⟨rfl, rfl⟩ := h
      exact pE_ret (r := some (.int (x5 + (-1)))) rfl ⟨rfl, rfl⟩
def g220_getChars_h22 (sg : Nat → Nat) : Nat → Int32 → Nat → Int32 → Int32 → mjQ → Option (Int32 × mjQ)
  | 0, _, _, _, _, _ => none
  | n + 1, x0, x2, x5, x6, Z =>
    if mjCmp .gt x0 ((-100)) = true then
      mjBp (qBa Z.2 1300001 (-x0)) fun v104 =>
      mjBp (qSba Z x2 (x5 + (-1)) v104) fun Z106 =>
      if mjCmp .ge x0 ((-9)) = true then
        g220_getChars_j104 sg x2 (x5 + (-1)) x6 Z106
      else
        mjBp (qBa Z106.2 1300002 (-x0)) fun v112 =>
        mjBp (qSba Z106 x2 ((x5 + (-1)) + (-1)) v112) fun Z114 =>
        g220_getChars_j104 sg x2 ((x5 + (-1)) + (-1)) x6 Z114
    else
      mjBp (qBa Z.2 1300001 (((x0 / 100) * 100) - x0)) fun v116 =>
      mjBp (qSba Z x2 (x5 + (-1)) v116) fun Z118 =>
      mjBp (qBa Z118.2 1300002 (((x0 / 100) * 100) - x0)) fun v120 =>
      mjBp (qSba Z118 x2 ((x5 + (-1)) + (-1)) v120) fun Z122 =>
      g220_getChars_h22 sg n (x0 / 100) x2 ((x5 + (-1)) + (-1)) x6 Z122
theorem g220_getChars_h22_ok {sg : Nat → Nat} : ∀ (n : Nat) (x0 : Int32) (x2 : Nat) (x5 : Int32) (x6 : Int32) (d1 d3 d4 : Option Value) (Z : mjQ) (v9 : Int32) (Z9 : mjQ), g220_getChars_h22 sg n x0 x2 x5 x6 Z = some (v9, Z9) → pE sg 1 220 22 [some (.int x0), d1, some (.ref x2), d3, d4, some (.int x5), some (.int x6)] [] Z (fun r M1 => r = some (.int v9) ∧ M1 = Z9)
  | 0, x0, x2, x5, x6, d1, d3, d4, Z, v9, Z9, h => by rw [g220_getChars_h22] at h; cases h
  | n + 1, x0, x2, x5, x6, d1, d3, d4, Z, v9, Z9, h => by
      rw [g220_getChars_h22] at h
      refine pE_many 2 (pc1 := 25) (L1 := [some (.int x0), d1, some (.ref x2), d3, d4, some (.int x5), some (.int x6)]) (st1 := [.int ((-100)), .int x0]) rfl ?_
      by_cases hc103 : mjCmp .gt x0 ((-100)) = true
      · rw [if_pos hc103] at h
        refine pE_cmt (t := 72) rfl rfl hc103 ?_
        refine pE_many 6 (pc1 := 83) (L1 := [some (.int x0), d1, some (.ref x2), d3, (mjK1 d4), some (.int (x5 + (-1))), some (.int x6)]) (st1 := [.int (-x0), .ref 1300001, .int (x5 + (-1)), .ref x2]) rfl ?_
        cases hq105 : qBa Z.2 1300001 (-x0) with
        | none => rw [hq105] at h; cases h
        | some v104 =>
          rw [hq105, mjBp_some] at h
          refine pE_bal rfl hq105 ?_
          cases hq107 : qSba Z x2 (x5 + (-1)) v104 with
          | none => rw [hq107] at h; cases h
          | some Z106 =>
            rw [hq107, mjBp_some] at h
            refine pE_bas rfl (by decide) hq107 ?_
            refine pE_many 2 (pc1 := 88) (L1 := [some (.int x0), d1, some (.ref x2), d3, (mjK1 d4), some (.int (x5 + (-1))), some (.int x6)]) (st1 := [.int ((-9)), .int x0]) rfl ?_
            by_cases hc108 : mjCmp .ge x0 ((-9)) = true
            · rw [if_pos hc108] at h
              refine pE_cmt (t := 104) rfl rfl hc108 ?_
              exact g220_getChars_j104_ok x2 (x5 + (-1)) x6 (some (.int x0)) d1 d3 ((mjK1 d4)) Z106 v9 Z9 h
            · rw [if_neg hc108] at h
              refine pE_cmf (t := 104) rfl rfl hc108 ?_
              refine pE_many 6 (pc1 := 102) (L1 := [some (.int x0), d1, some (.ref x2), d3, (mjK1 (mjK1 d4)), some (.int ((x5 + (-1)) + (-1))), some (.int x6)]) (st1 := [.int (-x0), .ref 1300002, .int ((x5 + (-1)) + (-1)), .ref x2]) rfl ?_
              cases hq113 : qBa Z106.2 1300002 (-x0) with
              | none => rw [hq113] at h; cases h
              | some v112 =>
                rw [hq113, mjBp_some] at h
                refine pE_bal rfl hq113 ?_
                cases hq115 : qSba Z106 x2 ((x5 + (-1)) + (-1)) v112 with
                | none => rw [hq115] at h; cases h
                | some Z114 =>
                  rw [hq115, mjBp_some] at h
                  refine pE_bas rfl (by decide) hq115 ?_
                  exact g220_getChars_j104_ok x2 ((x5 + (-1)) + (-1)) x6 (some (.int x0)) d1 d3 ((mjK1 (mjK1 d4))) Z114 v9 Z9 h
      · rw [if_neg hc103] at h
        refine pE_cmf (t := 72) rfl rfl hc103 ?_
        refine pE_many 2 (pc1 := 31) (L1 := [some (.int x0), d1, some (.ref x2), d3, d4, some (.int x5), some (.int x6)]) (st1 := [.int 100, .int x0]) rfl ?_
        refine pE_div rfl (by decide) ?_
        refine pE_many 14 (pc1 := 54) (L1 := [some (.int (x0 / 100)), d1, some (.ref x2), some (.int (x0 / 100)), some (.int (((x0 / 100) * 100) - x0)), some (.int (x5 + (-1))), some (.int x6)]) (st1 := [.int (((x0 / 100) * 100) - x0), .ref 1300001, .int (x5 + (-1)), .ref x2]) rfl ?_
        cases hq117 : qBa Z.2 1300001 (((x0 / 100) * 100) - x0) with
        | none => rw [hq117] at h; cases h
        | some v116 =>
          rw [hq117, mjBp_some] at h
          refine pE_bal rfl hq117 ?_
          cases hq119 : qSba Z x2 (x5 + (-1)) v116 with
          | none => rw [hq119] at h; cases h
          | some Z118 =>
            rw [hq119, mjBp_some] at h
            refine pE_bas rfl (by decide) hq119 ?_
            refine pE_many 5 (pc1 := 67) (L1 := [some (.int (x0 / 100)), d1, some (.ref x2), some (.int (x0 / 100)), some (.int (((x0 / 100) * 100) - x0)), some (.int ((x5 + (-1)) + (-1))), some (.int x6)]) (st1 := [.int (((x0 / 100) * 100) - x0), .ref 1300002, .int ((x5 + (-1)) + (-1)), .ref x2]) rfl ?_
            cases hq121 : qBa Z118.2 1300002 (((x0 / 100) * 100) - x0) with
            | none => rw [hq121] at h; cases h
            | some v120 =>
              rw [hq121, mjBp_some] at h
              refine pE_bal rfl hq121 ?_
              cases hq123 : qSba Z118 x2 ((x5 + (-1)) + (-1)) v120 with
              | none => rw [hq123] at h; cases h
              | some Z122 =>
                rw [hq123, mjBp_some] at h
                refine pE_bas rfl (by decide) hq123 ?_
                refine pE_many 1 (pc1 := 22) (L1 := [some (.int (x0 / 100)), d1, some (.ref x2), some (.int (x0 / 100)), some (.int (((x0 / 100) * 100) - x0)), some (.int ((x5 + (-1)) + (-1))), some (.int x6)]) (st1 := []) rfl ?_
                exact g220_getChars_h22_ok n (x0 / 100) x2 ((x5 + (-1)) + (-1)) x6 d1 (some (.int (x0 / 100))) (some (.int (((x0 / 100) * 100) - x0))) Z122 v9 Z9 h
def g220_getChars_j12 (sg : Nat → Nat) (x0 : Int32) (x2 : Nat) (x5 : Int32) (s0 : Int32) (Z : mjQ) : Option (Int32 × mjQ) :=
  if mjCmp .ne s0 0 = true then
    g220_getChars_h22 sg mjF x0 x2 x5 s0 Z
  else
    g220_getChars_h22 sg mjF (-x0) x2 x5 s0 Z
theorem g220_getChars_j12_ok {sg : Nat → Nat} (x0 : Int32) (x2 : Nat) (x5 : Int32) (s0 : Int32) (d1 d3 d4 d6 : Option Value) (Z : mjQ) (v9 : Int32) (Z9 : mjQ) (h : g220_getChars_j12 sg x0 x2 x5 s0 Z = some (v9, Z9)) : pE sg 1 220 12 [some (.int x0), d1, some (.ref x2), d3, d4, some (.int x5), d6] [.int s0] Z (fun r M1 => r = some (.int v9) ∧ M1 = Z9) := by
  unfold g220_getChars_j12 at h
  refine pE_many 2 (pc1 := 16) (L1 := [some (.int x0), d1, some (.ref x2), d3, d4, some (.int x5), some (.int s0)]) (st1 := [.int s0]) rfl ?_
  by_cases hc102 : mjCmp .ne s0 0 = true
  · rw [if_pos hc102] at h
    refine pE_ift (t := 22) rfl rfl hc102 ?_
    exact g220_getChars_h22_ok mjF x0 x2 x5 s0 d1 d3 d4 Z v9 Z9 h
  · rw [if_neg hc102] at h
    refine pE_iff (t := 22) rfl rfl hc102 ?_
    refine pE_many 3 (pc1 := 22) (L1 := [some (.int (-x0)), d1, some (.ref x2), d3, d4, some (.int x5), some (.int s0)]) (st1 := []) rfl ?_
    exact g220_getChars_h22_ok mjF (-x0) x2 x5 s0 d1 d3 d4 Z v9 Z9 h
def g220_getChars (sg : Nat → Nat) (p0 : Int32) (p1 : Int32) (p2 : Nat) (Z : mjQ) : Option (Int32 × mjQ) :=
  if mjCmp .ge p0 0 = true then
    g220_getChars_j12 sg p0 p2 p1 0 Z
  else
    g220_getChars_j12 sg p0 p2 p1 1 Z
theorem g220_getChars_ok {sg : Nat → Nat} {p0 : Int32} {p1 : Int32} {p2 : Nat} {Z : mjQ} {v9 : Int32} {Z9 : mjQ} (h : g220_getChars sg p0 p1 p2 Z = some (v9, Z9)) : pE sg 1 220 0 (mjEnt [.int p0, .int p1, .ref p2] (mjML 220)) [] Z (fun r M1 => r = some (.int v9) ∧ M1 = Z9) := by
  unfold g220_getChars at h
  show pE sg 1 220 0 [some (.int p0), some (.int p1), some (.ref p2), none, none, none, none] [] Z _
  refine pE_many 3 (pc1 := 4) (L1 := [some (.int p0), some (.int p1), some (.ref p2), none, none, some (.int p1), none]) (st1 := [.int p0]) rfl ?_
  by_cases hc101 : mjCmp .ge p0 0 = true
  · rw [if_pos hc101] at h
    refine pE_ift (t := 11) rfl rfl hc101 ?_
    refine pE_many 1 (pc1 := 12) (L1 := [some (.int p0), some (.int p1), some (.ref p2), none, none, some (.int p1), none]) (st1 := [.int 0]) rfl ?_
    exact g220_getChars_j12_ok p0 p2 p1 0 (some (.int p1)) none none none Z v9 Z9 h
  · rw [if_neg hc101] at h
    refine pE_iff (t := 11) rfl rfl hc101 ?_
    refine pE_many 2 (pc1 := 12) (L1 := [some (.int p0), some (.int p1), some (.ref p2), none, none, some (.int p1), none]) (st1 := [.int 1]) rfl ?_
    exact g220_getChars_j12_ok p0 p2 p1 1 (some (.int p1)) none none none Z v9 Z9 h
def g222_stringSize_h16 : Nat → Int32 → Int32 → Int32 → Int32 → mjQ → Option Int32
  | 0, _, _, _, _, _ => none
  | n + 1, x0, x1, x2, x3, Z =>
    if mjCmp .ge x3 10 = true then
      some (10 + x1)
    else
      if mjCmp .le x0 x2 = true then
        g222_stringSize_h16 n x0 x1 (10 * x2) (x3 + 1) Z
      else
        some (x3 + x1)
theorem g222_stringSize_h16_ok {sg : Nat → Nat} : ∀ (n : Nat) (x0 : Int32) (x1 : Int32) (x2 : Int32) (x3 : Int32) (Z : mjQ) (v9 : Int32), g222_stringSize_h16 n x0 x1 x2 x3 Z = some v9 → pE sg 1 222 16 [some (.int x0), some (.int x1), some (.int x2), some (.int x3)] [] Z (fun r M1 => r = some (.int v9) ∧ M1 = Z)
  | 0, x0, x1, x2, x3, Z, v9, h => by rw [g222_stringSize_h16] at h; cases h
  | n + 1, x0, x1, x2, x3, Z, v9, h => by
      rw [g222_stringSize_h16] at h
      refine pE_many 2 (pc1 := 19) (L1 := [some (.int x0), some (.int x1), some (.int x2), some (.int x3)]) (st1 := [.int 10, .int x3]) rfl ?_
      by_cases hc102 : mjCmp .ge x3 10 = true
      · rw [if_pos hc102] at h
        refine pE_cmt (t := 42) rfl rfl hc102 ?_
        refine pE_many 3 (pc1 := 46) (L1 := [some (.int x0), some (.int x1), some (.int x2), some (.int x3)]) (st1 := [.int (10 + x1)]) rfl ?_
        simp only [Option.some.injEq] at h
        subst h
        exact pE_ret (r := some (.int (10 + x1))) rfl ⟨rfl, rfl⟩
      · rw [if_neg hc102] at h
        refine pE_cmf (t := 42) rfl rfl hc102 ?_
        refine pE_many 2 (pc1 := 24) (L1 := [some (.int x0), some (.int x1), some (.int x2), some (.int x3)]) (st1 := [.int x2, .int x0]) rfl ?_
        by_cases hc103 : mjCmp .le x0 x2 = true
        · rw [if_pos hc103] at h
          refine pE_cmt (t := 31) rfl rfl hc103 ?_
          refine pE_many 6 (pc1 := 16) (L1 := [some (.int x0), some (.int x1), some (.int (10 * x2)), some (.int (x3 + 1))]) (st1 := []) rfl ?_
          exact g222_stringSize_h16_ok n x0 x1 (10 * x2) (x3 + 1) Z v9 h
        · rw [if_neg hc103] at h
          refine pE_cmf (t := 31) rfl rfl hc103 ?_
          refine pE_many 3 (pc1 := 30) (L1 := [some (.int x0), some (.int x1), some (.int x2), some (.int x3)]) (st1 := [.int (x3 + x1)]) rfl ?_
          simp only [Option.some.injEq] at h
          subst h
          exact pE_ret (r := some (.int (x3 + x1))) rfl ⟨rfl, rfl⟩
def g222_stringSize_j11 (x0 : Int32) (x1 : Int32) (Z : mjQ) : Option Int32 :=
  g222_stringSize_h16 mjF x0 x1 ((-10)) 1 Z
theorem g222_stringSize_j11_ok {sg : Nat → Nat} (x0 : Int32) (x1 : Int32) (d2 d3 : Option Value) (Z : mjQ) (v9 : Int32) (h : g222_stringSize_j11 x0 x1 Z = some v9) : pE sg 1 222 11 [some (.int x0), some (.int x1), d2, d3] [] Z (fun r M1 => r = some (.int v9) ∧ M1 = Z) := by
  unfold g222_stringSize_j11 at h
  refine pE_many 4 (pc1 := 16) (L1 := [some (.int x0), some (.int x1), some (.int ((-10))), some (.int 1)]) (st1 := []) rfl ?_
  exact g222_stringSize_h16_ok mjF x0 x1 ((-10)) 1 Z v9 h
def g222_stringSize (p0 : Int32) (Z : mjQ) : Option Int32 :=
  if mjCmp .lt p0 0 = true then
    g222_stringSize_j11 p0 1 Z
  else
    g222_stringSize_j11 (-p0) 0 Z
theorem g222_stringSize_ok {sg : Nat → Nat} {p0 : Int32} {Z : mjQ} {v9 : Int32} (h : g222_stringSize p0 Z = some v9) : pE sg 1 222 0 (mjEnt [.int p0] (mjML 222)) [] Z (fun r M1 => r = some (.int v9) ∧ M1 = Z) := by
  unfold g222_stringSize at h
  show pE sg 1 222 0 [some (.int p0), none, none, none] [] Z _
  refine pE_many 3 (pc1 := 3) (L1 := [some (.int p0), some (.int 1), none, none]) (st1 := [.int p0]) rfl ?_
  by_cases hc101 : mjCmp .lt p0 0 = true
  · rw [if_pos hc101] at h
    refine pE_ift (t := 11) rfl rfl hc101 ?_
    exact g222_stringSize_j11_ok p0 1 none none Z v9 h
  · rw [if_neg hc101] at h
    refine pE_iff (t := 11) rfl rfl hc101 ?_
    refine pE_many 5 (pc1 := 11) (L1 := [some (.int (-p0)), some (.int 0), none, none]) (st1 := []) rfl ?_
    exact g222_stringSize_j11_ok (-p0) 0 none none Z v9 h
def g205_append (sg : Nat → Nat) (a0 : Nat) (p0 : Int32) (Z : mjQ) : Option (Nat × mjQ) :=
  mjBp (qI Z.2 a0 19 3) fun v101 =>
  mjBp (g222_stringSize p0 Z) fun v104 =>
  if mjRo Z.2 a0 19 = true then
  mjBq (g209_ensureCapacityInternal sg a0 (v101 + v104) Z) fun _ Z109 =>
  if mjRo Z109.2 a0 19 = true then
  mjBp (g215_isLatin1 a0 Z109) fun v112 =>
  if mjCmp .eq v112 0 = true then
    mjBp (qR Z109.2 a0 19 0) fun v115 =>
    none
  else
    mjBp (qR Z109.2 a0 19 0) fun v117 =>
    mjBq (g220_getChars sg p0 (v101 + v104) v117 Z109) fun v120 Z121 =>
    mjBp (qSi Z121 a0 19 3 (v101 + v104)) fun Z122 =>
    some (a0, Z122)
  else none
  else none
theorem g205_append_ok {sg : Nat → Nat} {a0 : Nat} {p0 : Int32} {Z : mjQ} {v9 : Nat} {Z9 : mjQ} (h : g205_append sg a0 p0 Z = some (v9, Z9)) : pE sg 5 205 0 (mjEnt [.ref a0, .int p0] (mjML 205)) [] Z (fun r M1 => r = some (.ref v9) ∧ M1 = Z9) := by
  unfold g205_append at h
  show pE sg 5 205 0 [some (.ref a0), some (.int p0), none, none] [] Z _
  refine pE_many 1 (pc1 := 1) (L1 := [some (.ref a0), some (.int p0), none, none]) (st1 := [.ref a0]) rfl ?_
  cases hq102 : qI Z.2 a0 19 3 with
  | none => rw [hq102] at h; cases h
  | some v101 =>
    rw [hq102, mjBp_some] at h
    refine pE_gI rfl rfl hq102 ?_
    refine pE_many 3 (pc1 := 7) (L1 := [some (.ref a0), some (.int p0), some (.int v101), none]) (st1 := [.int p0, .int v101]) rfl ?_
    cases hq103 : g222_stringSize p0 Z with
    | none => rw [hq103] at h; cases h
    | some v104 =>
      rw [hq103, mjBp_some] at h
      refine pE_call (k2 := 222) (As := [.int p0]) (rest := [.int v101]) (w := 3) rfl (by decide) (by decide) (g222_stringSize_ok hq103) ?_
      show pE sg 5 205 10 [some (.ref a0), some (.int p0), some (.int v101), none] [.int v104, .int v101] Z _
      refine pE_many 4 (pc1 := 14) (L1 := [some (.ref a0), some (.int p0), some (.int v101), some (.int (v101 + v104))]) (st1 := [.int (v101 + v104), .ref a0]) rfl ?_
      have hk106 : mjRo Z.2 a0 19 = true := by
        by_cases q9 : mjRo Z.2 a0 19 = true
        · exact q9
        · rw [if_neg q9] at h; cases h
      rw [if_pos hk106] at h
      cases hq107 : g209_ensureCapacityInternal sg a0 (v101 + v104) Z with
      | none => rw [hq107] at h; cases h
      | some w =>
        obtain ⟨v108, Z109⟩ := w
        rw [hq107, mjBq_some] at h
        refine pE_callV (k2 := 209) (As := [.int (v101 + v104)]) (rest := []) rfl rfl rfl rfl rfl rfl hk106 (by decide) (by decide) (by decide) (g209_ensureCapacityInternal_ok hq107) ?_
        show pE sg 5 205 17 [some (.ref a0), some (.int p0), some (.int v101), some (.int (v101 + v104))] [] Z109 _
        refine pE_many 1 (pc1 := 18) (L1 := [some (.ref a0), some (.int p0), some (.int v101), some (.int (v101 + v104))]) (st1 := [.ref a0]) rfl ?_
        have hk110 : mjRo Z109.2 a0 19 = true := by
          by_cases q9 : mjRo Z109.2 a0 19 = true
          · exact q9
          · rw [if_neg q9] at h; cases h
        rw [if_pos hk110] at h
        cases hq111 : g215_isLatin1 a0 Z109 with
        | none => rw [hq111] at h; cases h
        | some v112 =>
          rw [hq111, mjBp_some] at h
          refine pE_callV (k2 := 215) (As := []) (rest := []) rfl rfl rfl rfl rfl rfl hk110 (by decide) (by decide) (by decide) (g215_isLatin1_ok hq111) ?_
          show pE sg 5 205 21 [some (.ref a0), some (.int p0), some (.int v101), some (.int (v101 + v104))] [.int v112] Z109 _
          by_cases hc114 : mjCmp .eq v112 0 = true
          · rw [if_pos hc114] at h
            refine pE_ift (t := 37) rfl rfl hc114 ?_
            refine pE_many 4 (pc1 := 41) (L1 := [some (.ref a0), some (.int p0), some (.int v101), some (.int (v101 + v104))]) (st1 := [.ref a0, .int (v101 + v104), .int v101, .int p0]) rfl ?_
            cases hq116 : qR Z109.2 a0 19 0 with
            | none => rw [hq116] at h; cases h
            | some v115 =>
              rw [hq116, mjBp_some] at h
              refine pE_gR rfl rfl hq116 ?_
              cases h
          · rw [if_neg hc114] at h
            refine pE_iff (t := 37) rfl rfl hc114 ?_
            refine pE_many 3 (pc1 := 27) (L1 := [some (.ref a0), some (.int p0), some (.int v101), some (.int (v101 + v104))]) (st1 := [.ref a0, .int (v101 + v104), .int p0]) rfl ?_
            cases hq118 : qR Z109.2 a0 19 0 with
            | none => rw [hq118] at h; cases h
            | some v117 =>
              rw [hq118, mjBp_some] at h
              refine pE_gR rfl rfl hq118 ?_
              cases hq119 : g220_getChars sg p0 (v101 + v104) v117 Z109 with
              | none => rw [hq119] at h; cases h
              | some w =>
                obtain ⟨v120, Z121⟩ := w
                rw [hq119, mjBq_some] at h
                refine pE_call (k2 := 220) (As := [.int p0, .int (v101 + v104), .ref v117]) (rest := []) (w := 3) rfl (by decide) (by decide) (g220_getChars_ok hq119) ?_
                show pE sg 5 205 33 [some (.ref a0), some (.int p0), some (.int v101), some (.int (v101 + v104))] [.int v120] Z121 _
                refine pE_many 4 (pc1 := 50) (L1 := [some (.ref a0), some (.int p0), some (.int v101), some (.int (v101 + v104))]) (st1 := [.int (v101 + v104), .ref a0]) rfl ?_
                cases hq123 : qSi Z121 a0 19 3 (v101 + v104) with
                | none => rw [hq123] at h; cases h
                | some Z122 =>
                  rw [hq123, mjBp_some] at h
                  refine pE_pI rfl rfl (by decide) (by decide) hq123 ?_
                  refine pE_many 1 (pc1 := 54) (L1 := [some (.ref a0), some (.int p0), some (.int v101), some (.int (v101 + v104))]) (st1 := [.ref a0]) rfl ?_
                  simp only [Option.some.injEq, Prod.mk.injEq] at h
                  obtain ⟨rfl, rfl⟩ := h
                  exact pE_ret (r := some (.ref a0)) rfl ⟨rfl, rfl⟩
def g230_append (sg : Nat → Nat) (a0 : Nat) (p0 : Int32) (Z : mjQ) : Option (Nat × mjQ) :=
  if mjRo Z.2 a0 19 = true then
  mjBq (g205_append sg a0 p0 Z) fun v103 Z104 =>
  some (a0, Z104)
  else none
theorem g230_append_ok {sg : Nat → Nat} {a0 : Nat} {p0 : Int32} {Z : mjQ} {v9 : Nat} {Z9 : mjQ} (h : g230_append sg a0 p0 Z = some (v9, Z9)) : pE sg 6 230 0 (mjEnt [.ref a0, .int p0] (mjML 230)) [] Z (fun r M1 => r = some (.ref v9) ∧ M1 = Z9) := by
  unfold g230_append at h
  show pE sg 6 230 0 [some (.ref a0), some (.int p0)] [] Z _
  refine pE_many 2 (pc1 := 2) (L1 := [some (.ref a0), some (.int p0)]) (st1 := [.int p0, .ref a0]) rfl ?_
  have hk101 : mjRo Z.2 a0 19 = true := by
    by_cases q9 : mjRo Z.2 a0 19 = true
    · exact q9
    · rw [if_neg q9] at h; cases h
  rw [if_pos hk101] at h
  cases hq102 : g205_append sg a0 p0 Z with
  | none => rw [hq102] at h; cases h
  | some w =>
    obtain ⟨v103, Z104⟩ := w
    rw [hq102, mjBq_some] at h
    refine pE_callS (k2 := 205) (As := [.int p0]) (rest := []) rfl rfl rfl rfl rfl rfl hk101 (by decide) (by decide) (by decide) (g205_append_ok hq102) ?_
    show pE sg 6 230 5 [some (.ref a0), some (.int p0)] [.ref v103] Z104 _
    refine pE_many 2 (pc1 := 7) (L1 := [some (.ref a0), some (.int p0)]) (st1 := [.ref a0]) rfl ?_
    simp only [Option.some.injEq, Prod.mk.injEq] at h
    obtain ⟨rfl, rfl⟩ := h
    exact pE_ret (r := some (.ref a0)) rfl ⟨rfl, rfl⟩
def g171_coder (a0 : Nat) (Z : mjQ) : Option Int32 :=
  if mjCmp .eq 1 0 = true then
    some 1
  else
    mjBp (qI Z.2 a0 18 1) fun v102 =>
    if v102.toInt8.toInt32 = v102 then
    some v102
    else none
theorem g171_coder_ok {sg : Nat → Nat} {a0 : Nat} {Z : mjQ} {v9 : Int32} (h : g171_coder a0 Z = some v9) : pE sg 1 171 0 (mjEnt [.ref a0] (mjML 171)) [] Z (fun r M1 => r = some (.int v9) ∧ M1 = Z) := by
  unfold g171_coder at h
  show pE sg 1 171 0 [some (.ref a0)] [] Z _
  refine pE_many 1 (pc1 := 3) (L1 := [some (.ref a0)]) (st1 := [.int 1]) rfl ?_
  by_cases hc101 : mjCmp .eq 1 0 = true
  · rw [if_pos hc101] at h
    refine pE_ift (t := 13) rfl rfl hc101 ?_
    refine pE_many 1 (pc1 := 14) (L1 := [some (.ref a0)]) (st1 := [.int 1]) rfl ?_
    simp only [Option.some.injEq] at h
    subst h
    exact pE_ret (r := some (.int 1)) rfl ⟨rfl, rfl⟩
  · rw [if_neg hc101] at h
    refine pE_iff (t := 13) rfl rfl hc101 ?_
    refine pE_many 1 (pc1 := 7) (L1 := [some (.ref a0)]) (st1 := [.ref a0]) rfl ?_
    cases hq103 : qI Z.2 a0 18 1 with
    | none => rw [hq103] at h; cases h
    | some v102 =>
      rw [hq103, mjBp_some] at h
      refine pE_gI rfl rfl hq103 ?_
      refine pE_many 1 (pc1 := 14) (L1 := [some (.ref a0)]) (st1 := [.int v102]) rfl ?_
      have hk104 : v102.toInt8.toInt32 = v102 := by
        by_cases q9 : v102.toInt8.toInt32 = v102
        · exact q9
        · rw [if_neg q9] at h; cases h
      rw [if_pos hk104] at h
      simp only [Option.some.injEq] at h
      subst h
      exact pE_ret (r := some (.int v102)) (mjRt1_b rfl rfl hk104) ⟨rfl, rfl⟩
def g170_length (a0 : Nat) (Z : mjQ) : Option Int32 :=
  mjBp (qR Z.2 a0 18 0) fun v101 =>
  mjBp (qLn Z.2 v101) fun v103 =>
  if mjRo Z.2 a0 18 = true then
  mjBp (g171_coder a0 Z) fun v107 =>
  some ((v103 : Int32) >>> ((v107 : Int32) &&& 31))
  else none
theorem g170_length_ok {sg : Nat → Nat} {a0 : Nat} {Z : mjQ} {v9 : Int32} (h : g170_length a0 Z = some v9) : pE sg 2 170 0 (mjEnt [.ref a0] (mjML 170)) [] Z (fun r M1 => r = some (.int v9) ∧ M1 = Z) := by
  unfold g170_length at h
  show pE sg 2 170 0 [some (.ref a0)] [] Z _
  refine pE_many 1 (pc1 := 1) (L1 := [some (.ref a0)]) (st1 := [.ref a0]) rfl ?_
  cases hq102 : qR Z.2 a0 18 0 with
  | none => rw [hq102] at h; cases h
  | some v101 =>
    rw [hq102, mjBp_some] at h
    refine pE_gR rfl rfl hq102 ?_
    cases hq104 : qLn Z.2 v101 with
    | none => rw [hq104] at h; cases h
    | some v103 =>
      rw [hq104, mjBp_some] at h
      refine pE_len rfl hq104 ?_
      refine pE_many 1 (pc1 := 6) (L1 := [some (.ref a0)]) (st1 := [.ref a0, .int v103]) rfl ?_
      have hk105 : mjRo Z.2 a0 18 = true := by
        by_cases q9 : mjRo Z.2 a0 18 = true
        · exact q9
        · rw [if_neg q9] at h; cases h
      rw [if_pos hk105] at h
      cases hq106 : g171_coder a0 Z with
      | none => rw [hq106] at h; cases h
      | some v107 =>
        rw [hq106, mjBp_some] at h
        refine pE_callV (k2 := 171) (As := []) (rest := [.int v103]) rfl rfl rfl rfl rfl rfl hk105 (by decide) (by decide) (by decide) (g171_coder_ok hq106) ?_
        show pE sg 2 170 9 [some (.ref a0)] [.int v107, .int v103] Z _
        refine pE_many 1 (pc1 := 10) (L1 := [some (.ref a0)]) (st1 := [.int ((v103 : Int32) >>> ((v107 : Int32) &&& 31))]) rfl ?_
        simp only [Option.some.injEq] at h
        subst h
        exact pE_ret (r := some (.int ((v103 : Int32) >>> ((v107 : Int32) &&& 31)))) rfl ⟨rfl, rfl⟩
def g214_inflateIfNeededFor (sg : Nat → Nat) (a0 : Nat) (p0 : Nat) (Z : mjQ) : Option (Unit × mjQ) :=
  if mjCmp .eq 1 0 = true then
    some ((), Z)
  else
    mjBp (qI Z.2 a0 19 1) fun v102 =>
    if mjRo Z.2 p0 18 = true then
    mjBp (g171_coder p0 Z) fun v106 =>
    if mjCmp .eq v102 v106 = true then
      some ((), Z)
    else
      none
    else none
theorem g214_inflateIfNeededFor_ok {sg : Nat → Nat} {a0 : Nat} {p0 : Nat} {Z : mjQ} {v9 : Unit} {Z9 : mjQ} (h : g214_inflateIfNeededFor sg a0 p0 Z = some (v9, Z9)) : pE sg 2 214 0 (mjEnt [.ref a0, .ref p0] (mjML 214)) [] Z (fun r M1 => r = none ∧ M1 = Z9) := by
  unfold g214_inflateIfNeededFor at h
  show pE sg 2 214 0 [some (.ref a0), some (.ref p0)] [] Z _
  refine pE_many 1 (pc1 := 3) (L1 := [some (.ref a0), some (.ref p0)]) (st1 := [.int 1]) rfl ?_
  by_cases hc101 : mjCmp .eq 1 0 = true
  · rw [if_pos hc101] at h
    refine pE_ift (t := 21) rfl rfl hc101 ?_
    simp only [Option.some.injEq, Prod.mk.injEq] at h
    obtain ⟨-, rfl⟩ := h
    exact pE_ret (r := none) rfl ⟨rfl, rfl⟩
  · rw [if_neg hc101] at h
    refine pE_iff (t := 21) rfl rfl hc101 ?_
    refine pE_many 1 (pc1 := 7) (L1 := [some (.ref a0), some (.ref p0)]) (st1 := [.ref a0]) rfl ?_
    cases hq103 : qI Z.2 a0 19 1 with
    | none => rw [hq103] at h; cases h
    | some v102 =>
      rw [hq103, mjBp_some] at h
      refine pE_gI rfl rfl hq103 ?_
      refine pE_many 1 (pc1 := 11) (L1 := [some (.ref a0), some (.ref p0)]) (st1 := [.ref p0, .int v102]) rfl ?_
      have hk104 : mjRo Z.2 p0 18 = true := by
        by_cases q9 : mjRo Z.2 p0 18 = true
        · exact q9
        · rw [if_neg q9] at h; cases h
      rw [if_pos hk104] at h
      cases hq105 : g171_coder p0 Z with
      | none => rw [hq105] at h; cases h
      | some v106 =>
        rw [hq105, mjBp_some] at h
        refine pE_callV (k2 := 171) (As := []) (rest := [.int v102]) rfl rfl rfl rfl rfl rfl hk104 (by decide) (by decide) (by decide) (g171_coder_ok hq105) ?_
        show pE sg 2 214 14 [some (.ref a0), some (.ref p0)] [.int v106, .int v102] Z _
        by_cases hc108 : mjCmp .eq v102 v106 = true
        · rw [if_pos hc108] at h
          refine pE_cmt (t := 21) rfl rfl hc108 ?_
          simp only [Option.some.injEq, Prod.mk.injEq] at h
          obtain ⟨-, rfl⟩ := h
          exact pE_ret (r := none) rfl ⟨rfl, rfl⟩
        · rw [if_neg hc108] at h
          refine pE_cmf (t := 21) rfl rfl hc108 ?_
          refine pE_many 1 (pc1 := 18) (L1 := [some (.ref a0), some (.ref p0)]) (st1 := [.ref a0]) rfl ?_
          cases h
def g226_getBytes (sg : Nat → Nat) (a0 : Nat) (p0 : Nat) (p1 : Int32) (p2 : Int32) (Z : mjQ) : Option (Unit × mjQ) :=
  if mjRo Z.2 a0 18 = true then
  mjBp (g171_coder a0 Z) fun v103 =>
  if mjCmp .ne v103 p2 = true then
    mjBp (qR Z.2 a0 18 0) fun v106 =>
    mjBp (qLn Z.2 v106) fun v110 =>
    none
  else
    mjBp (qR Z.2 a0 18 0) fun v112 =>
    mjBp (qLn Z.2 v112) fun v116 =>
    mjBp (qCp 226 [.ref v112, .int 0, .ref p0, .int ((p1 : Int32) <<< ((p2 : Int32) &&& 31)), .int v116] Z) fun Z119 =>
    some ((), Z119)
  else none
theorem g226_getBytes_ok {sg : Nat → Nat} {a0 : Nat} {p0 : Nat} {p1 : Int32} {p2 : Int32} {Z : mjQ} {v9 : Unit} {Z9 : mjQ} (h : g226_getBytes sg a0 p0 p1 p2 Z = some (v9, Z9)) : pE sg 2 226 0 (mjEnt [.ref a0, .ref p0, .int p1, .int p2] (mjML 226)) [] Z (fun r M1 => r = none ∧ M1 = Z9) := by
  unfold g226_getBytes at h
  show pE sg 2 226 0 [some (.ref a0), some (.ref p0), some (.int p1), some (.int p2)] [] Z _
  refine pE_many 1 (pc1 := 1) (L1 := [some (.ref a0), some (.ref p0), some (.int p1), some (.int p2)]) (st1 := [.ref a0]) rfl ?_
  have hk101 : mjRo Z.2 a0 18 = true := by
    by_cases q9 : mjRo Z.2 a0 18 = true
    · exact q9
    · rw [if_neg q9] at h; cases h
  rw [if_pos hk101] at h
  cases hq102 : g171_coder a0 Z with
  | none => rw [hq102] at h; cases h
  | some v103 =>
    rw [hq102, mjBp_some] at h
    refine pE_callV (k2 := 171) (As := []) (rest := []) rfl rfl rfl rfl rfl rfl hk101 (by decide) (by decide) (by decide) (g171_coder_ok hq102) ?_
    show pE sg 2 226 4 [some (.ref a0), some (.ref p0), some (.int p1), some (.int p2)] [.int v103] Z _
    refine pE_many 1 (pc1 := 5) (L1 := [some (.ref a0), some (.ref p0), some (.int p1), some (.int p2)]) (st1 := [.int p2, .int v103]) rfl ?_
    by_cases hc105 : mjCmp .ne v103 p2 = true
    · rw [if_pos hc105] at h
      refine pE_cmt (t := 28) rfl rfl hc105 ?_
      refine pE_many 1 (pc1 := 29) (L1 := [some (.ref a0), some (.ref p0), some (.int p1), some (.int p2)]) (st1 := [.ref a0]) rfl ?_
      cases hq107 : qR Z.2 a0 18 0 with
      | none => rw [hq107] at h; cases h
      | some v106 =>
        rw [hq107, mjBp_some] at h
        refine pE_gR rfl rfl hq107 ?_
        refine pE_many 4 (pc1 := 36) (L1 := [some (.ref a0), some (.ref p0), some (.int p1), some (.int p2)]) (st1 := [.ref a0, .int p1, .ref p0, .int 0, .ref v106]) rfl ?_
        refine pE_gR rfl rfl hq107 ?_
        cases hq111 : qLn Z.2 v106 with
        | none => rw [hq111] at h; cases h
        | some v110 =>
          rw [hq111, mjBp_some] at h
          refine pE_len rfl hq111 ?_
          cases h
    · rw [if_neg hc105] at h
      refine pE_cmf (t := 28) rfl rfl hc105 ?_
      refine pE_many 1 (pc1 := 9) (L1 := [some (.ref a0), some (.ref p0), some (.int p1), some (.int p2)]) (st1 := [.ref a0]) rfl ?_
      cases hq113 : qR Z.2 a0 18 0 with
      | none => rw [hq113] at h; cases h
      | some v112 =>
        rw [hq113, mjBp_some] at h
        refine pE_gR rfl rfl hq113 ?_
        refine pE_many 6 (pc1 := 18) (L1 := [some (.ref a0), some (.ref p0), some (.int p1), some (.int p2)]) (st1 := [.ref a0, .int ((p1 : Int32) <<< ((p2 : Int32) &&& 31)), .ref p0, .int 0, .ref v112]) rfl ?_
        refine pE_gR rfl rfl hq113 ?_
        cases hq117 : qLn Z.2 v112 with
        | none => rw [hq117] at h; cases h
        | some v116 =>
          rw [hq117, mjBp_some] at h
          refine pE_len rfl hq117 ?_
          cases hq118 : qCp 226 [.ref v112, .int 0, .ref p0, .int ((p1 : Int32) <<< ((p2 : Int32) &&& 31)), .int v116] Z with
          | none => rw [hq118] at h; cases h
          | some Z119 =>
            rw [hq118, mjBp_some] at h
            refine pE_acp (As := [.ref v112, .int 0, .ref p0, .int ((p1 : Int32) <<< ((p2 : Int32) &&& 31)), .int v116]) (rest := []) (w := 3) rfl (by decide) hq118 ?_
            refine pE_many 1 (pc1 := 43) (L1 := [some (.ref a0), some (.ref p0), some (.int p1), some (.int p2)]) (st1 := []) rfl ?_
            simp only [Option.some.injEq, Prod.mk.injEq] at h
            obtain ⟨-, rfl⟩ := h
            exact pE_ret (r := none) rfl ⟨rfl, rfl⟩
def g218_putStringAt (sg : Nat → Nat) (a0 : Nat) (p0 : Int32) (p1 : Nat) (Z : mjQ) : Option (Unit × mjQ) :=
  if mjRo Z.2 a0 19 = true then
  mjBq (g214_inflateIfNeededFor sg a0 p1 Z) fun _ Z104 =>
  mjBp (qR Z104.2 a0 19 0) fun v105 =>
  mjBp (qI Z104.2 a0 19 1) fun v107 =>
  if mjRo Z104.2 p1 18 = true then
  mjBq (g226_getBytes sg p1 v105 p0 v107 Z104) fun _ Z112 =>
  some ((), Z112)
  else none
  else none
theorem g218_putStringAt_ok {sg : Nat → Nat} {a0 : Nat} {p0 : Int32} {p1 : Nat} {Z : mjQ} {v9 : Unit} {Z9 : mjQ} (h : g218_putStringAt sg a0 p0 p1 Z = some (v9, Z9)) : pE sg 3 218 0 (mjEnt [.ref a0, .int p0, .ref p1] (mjML 218)) [] Z (fun r M1 => r = none ∧ M1 = Z9) := by
  unfold g218_putStringAt at h
  show pE sg 3 218 0 [some (.ref a0), some (.int p0), some (.ref p1)] [] Z _
  refine pE_many 2 (pc1 := 2) (L1 := [some (.ref a0), some (.int p0), some (.ref p1)]) (st1 := [.ref p1, .ref a0]) rfl ?_
  have hk101 : mjRo Z.2 a0 19 = true := by
    by_cases q9 : mjRo Z.2 a0 19 = true
    · exact q9
    · rw [if_neg q9] at h; cases h
  rw [if_pos hk101] at h
  cases hq102 : g214_inflateIfNeededFor sg a0 p1 Z with
  | none => rw [hq102] at h; cases h
  | some w =>
    obtain ⟨v103, Z104⟩ := w
    rw [hq102, mjBq_some] at h
    refine pE_callV (k2 := 214) (As := [.ref p1]) (rest := []) rfl rfl rfl rfl rfl rfl hk101 (by decide) (by decide) (by decide) (g214_inflateIfNeededFor_ok hq102) ?_
    show pE sg 3 218 5 [some (.ref a0), some (.int p0), some (.ref p1)] [] Z104 _
    refine pE_many 2 (pc1 := 7) (L1 := [some (.ref a0), some (.int p0), some (.ref p1)]) (st1 := [.ref a0, .ref p1]) rfl ?_
    cases hq106 : qR Z104.2 a0 19 0 with
    | none => rw [hq106] at h; cases h
    | some v105 =>
      rw [hq106, mjBp_some] at h
      refine pE_gR rfl rfl hq106 ?_
      refine pE_many 2 (pc1 := 12) (L1 := [some (.ref a0), some (.int p0), some (.ref p1)]) (st1 := [.ref a0, .int p0, .ref v105, .ref p1]) rfl ?_
      cases hq108 : qI Z104.2 a0 19 1 with
      | none => rw [hq108] at h; cases h
      | some v107 =>
        rw [hq108, mjBp_some] at h
        refine pE_gI rfl rfl hq108 ?_
        have hk109 : mjRo Z104.2 p1 18 = true := by
          by_cases q9 : mjRo Z104.2 p1 18 = true
          · exact q9
          · rw [if_neg q9] at h; cases h
        rw [if_pos hk109] at h
        cases hq110 : g226_getBytes sg p1 v105 p0 v107 Z104 with
        | none => rw [hq110] at h; cases h
        | some w =>
          obtain ⟨v111, Z112⟩ := w
          rw [hq110, mjBq_some] at h
          refine pE_callV (k2 := 226) (As := [.ref v105, .int p0, .int v107]) (rest := []) rfl rfl rfl rfl rfl rfl hk109 (by decide) (by decide) (by decide) (g226_getBytes_ok hq110) ?_
          show pE sg 3 218 18 [some (.ref a0), some (.int p0), some (.ref p1)] [] Z112 _
          simp only [Option.some.injEq, Prod.mk.injEq] at h
          obtain ⟨-, rfl⟩ := h
          exact pE_ret (r := none) rfl ⟨rfl, rfl⟩
def g208_append (sg : Nat → Nat) (a0 : Nat) (p0 : Nat) (Z : mjQ) : Option (Nat × mjQ) :=
  if mjRo Z.2 p0 18 = true then
  mjBp (g170_length p0 Z) fun v103 =>
  mjBp (qI Z.2 a0 19 3) fun v105 =>
  if mjRo Z.2 a0 19 = true then
  mjBq (g209_ensureCapacityInternal sg a0 (v105 + v103) Z) fun _ Z110 =>
  mjBp (qI Z110.2 a0 19 3) fun v111 =>
  if mjRo Z110.2 a0 19 = true then
  mjBq (g218_putStringAt sg a0 v111 p0 Z110) fun _ Z116 =>
  mjBp (qI Z116.2 a0 19 3) fun v117 =>
  mjBp (qSi Z116 a0 19 3 (v117 + v103)) fun Z119 =>
  some (a0, Z119)
  else none
  else none
  else none
theorem g208_append_ok {sg : Nat → Nat} {a0 : Nat} {p0 : Nat} {Z : mjQ} {v9 : Nat} {Z9 : mjQ} (h : g208_append sg a0 p0 Z = some (v9, Z9)) : pE sg 5 208 0 (mjEnt [.ref a0, .ref p0] (mjML 208)) [] Z (fun r M1 => r = some (.ref v9) ∧ M1 = Z9) := by
  unfold g208_append at h
  show pE sg 5 208 0 [some (.ref a0), some (.ref p0), none] [] Z _
  refine pE_many 3 (pc1 := 10) (L1 := [some (.ref a0), some (.ref p0), none]) (st1 := [.ref p0]) rfl ?_
  have hk101 : mjRo Z.2 p0 18 = true := by
    by_cases q9 : mjRo Z.2 p0 18 = true
    · exact q9
    · rw [if_neg q9] at h; cases h
  rw [if_pos hk101] at h
  cases hq102 : g170_length p0 Z with
  | none => rw [hq102] at h; cases h
  | some v103 =>
    rw [hq102, mjBp_some] at h
    refine pE_callV (k2 := 170) (As := []) (rest := []) rfl rfl rfl rfl rfl rfl hk101 (by decide) (by decide) (by decide) (g170_length_ok hq102) ?_
    show pE sg 5 208 13 [some (.ref a0), some (.ref p0), none] [.int v103] Z _
    refine pE_many 3 (pc1 := 16) (L1 := [some (.ref a0), some (.ref p0), some (.int v103)]) (st1 := [.ref a0, .ref a0]) rfl ?_
    cases hq106 : qI Z.2 a0 19 3 with
    | none => rw [hq106] at h; cases h
    | some v105 =>
      rw [hq106, mjBp_some] at h
      refine pE_gI rfl rfl hq106 ?_
      refine pE_many 2 (pc1 := 21) (L1 := [some (.ref a0), some (.ref p0), some (.int v103)]) (st1 := [.int (v105 + v103), .ref a0]) rfl ?_
      have hk107 : mjRo Z.2 a0 19 = true := by
        by_cases q9 : mjRo Z.2 a0 19 = true
        · exact q9
        · rw [if_neg q9] at h; cases h
      rw [if_pos hk107] at h
      cases hq108 : g209_ensureCapacityInternal sg a0 (v105 + v103) Z with
      | none => rw [hq108] at h; cases h
      | some w =>
        obtain ⟨v109, Z110⟩ := w
        rw [hq108, mjBq_some] at h
        refine pE_callV (k2 := 209) (As := [.int (v105 + v103)]) (rest := []) rfl rfl rfl rfl rfl rfl hk107 (by decide) (by decide) (by decide) (g209_ensureCapacityInternal_ok hq108) ?_
        show pE sg 5 208 24 [some (.ref a0), some (.ref p0), some (.int v103)] [] Z110 _
        refine pE_many 2 (pc1 := 26) (L1 := [some (.ref a0), some (.ref p0), some (.int v103)]) (st1 := [.ref a0, .ref a0]) rfl ?_
        cases hq112 : qI Z110.2 a0 19 3 with
        | none => rw [hq112] at h; cases h
        | some v111 =>
          rw [hq112, mjBp_some] at h
          refine pE_gI rfl rfl hq112 ?_
          refine pE_many 1 (pc1 := 30) (L1 := [some (.ref a0), some (.ref p0), some (.int v103)]) (st1 := [.ref p0, .int v111, .ref a0]) rfl ?_
          have hk113 : mjRo Z110.2 a0 19 = true := by
            by_cases q9 : mjRo Z110.2 a0 19 = true
            · exact q9
            · rw [if_neg q9] at h; cases h
          rw [if_pos hk113] at h
          cases hq114 : g218_putStringAt sg a0 v111 p0 Z110 with
          | none => rw [hq114] at h; cases h
          | some w =>
            obtain ⟨v115, Z116⟩ := w
            rw [hq114, mjBq_some] at h
            refine pE_callV (k2 := 218) (As := [.int v111, .ref p0]) (rest := []) rfl rfl rfl rfl rfl rfl hk113 (by decide) (by decide) (by decide) (g218_putStringAt_ok hq114) ?_
            show pE sg 5 208 33 [some (.ref a0), some (.ref p0), some (.int v103)] [] Z116 _
            refine pE_many 2 (pc1 := 35) (L1 := [some (.ref a0), some (.ref p0), some (.int v103)]) (st1 := [.ref a0, .ref a0]) rfl ?_
            cases hq118 : qI Z116.2 a0 19 3 with
            | none => rw [hq118] at h; cases h
            | some v117 =>
              rw [hq118, mjBp_some] at h
              refine pE_gI rfl rfl hq118 ?_
              refine pE_many 2 (pc1 := 40) (L1 := [some (.ref a0), some (.ref p0), some (.int v103)]) (st1 := [.int (v117 + v103), .ref a0]) rfl ?_
              cases hq120 : qSi Z116 a0 19 3 (v117 + v103) with
              | none => rw [hq120] at h; cases h
              | some Z119 =>
                rw [hq120, mjBp_some] at h
                refine pE_pI rfl rfl (by decide) (by decide) hq120 ?_
                refine pE_many 1 (pc1 := 44) (L1 := [some (.ref a0), some (.ref p0), some (.int v103)]) (st1 := [.ref a0]) rfl ?_
                simp only [Option.some.injEq, Prod.mk.injEq] at h
                obtain ⟨rfl, rfl⟩ := h
                exact pE_ret (r := some (.ref a0)) rfl ⟨rfl, rfl⟩
def g233_append (sg : Nat → Nat) (a0 : Nat) (p0 : Nat) (Z : mjQ) : Option (Nat × mjQ) :=
  if mjRo Z.2 a0 19 = true then
  mjBq (g208_append sg a0 p0 Z) fun v103 Z104 =>
  some (a0, Z104)
  else none
theorem g233_append_ok {sg : Nat → Nat} {a0 : Nat} {p0 : Nat} {Z : mjQ} {v9 : Nat} {Z9 : mjQ} (h : g233_append sg a0 p0 Z = some (v9, Z9)) : pE sg 6 233 0 (mjEnt [.ref a0, .ref p0] (mjML 233)) [] Z (fun r M1 => r = some (.ref v9) ∧ M1 = Z9) := by
  unfold g233_append at h
  show pE sg 6 233 0 [some (.ref a0), some (.ref p0)] [] Z _
  refine pE_many 2 (pc1 := 2) (L1 := [some (.ref a0), some (.ref p0)]) (st1 := [.ref p0, .ref a0]) rfl ?_
  have hk101 : mjRo Z.2 a0 19 = true := by
    by_cases q9 : mjRo Z.2 a0 19 = true
    · exact q9
    · rw [if_neg q9] at h; cases h
  rw [if_pos hk101] at h
  cases hq102 : g208_append sg a0 p0 Z with
  | none => rw [hq102] at h; cases h
  | some w =>
    obtain ⟨v103, Z104⟩ := w
    rw [hq102, mjBq_some] at h
    refine pE_callS (k2 := 208) (As := [.ref p0]) (rest := []) rfl rfl rfl rfl rfl rfl hk101 (by decide) (by decide) (by decide) (g208_append_ok hq102) ?_
    show pE sg 6 233 5 [some (.ref a0), some (.ref p0)] [.ref v103] Z104 _
    refine pE_many 2 (pc1 := 7) (L1 := [some (.ref a0), some (.ref p0)]) (st1 := [.ref a0]) rfl ?_
    simp only [Option.some.injEq, Prod.mk.injEq] at h
    obtain ⟨rfl, rfl⟩ := h
    exact pE_ret (r := some (.ref a0)) rfl ⟨rfl, rfl⟩
def g194_init (sg : Nat → Nat) (a0 : Nat) (Z : mjQ) : Option (Unit × mjQ) :=
  mjBp (qSi Z a0 15 2 ((-1))) fun Z101 =>
  some ((), Z101)
set_option maxRecDepth 100000 in
theorem g194_init_ok {sg : Nat → Nat} {a0 : Nat} {Z : mjQ} {v9 : Unit} {Z9 : mjQ} (h : g194_init sg a0 Z = some (v9, Z9)) : pE sg 2 194 0 (mjEnt [.ref a0] (mjML 194)) [] Z (fun r M1 => r = none ∧ M1 = Z9) := by
  unfold g194_init at h
  show pE sg 2 194 0 [some (.ref a0)] [] Z _
  refine pE_many 1 (pc1 := 1) (L1 := [some (.ref a0)]) (st1 := [.ref a0]) rfl ?_
  refine pE_obj (As := [.ref a0]) (rest := []) (w := 3) rfl (by first | decide | omega) ?_
  refine pE_many 2 (pc1 := 6) (L1 := [some (.ref a0)]) (st1 := [.int ((-1)), .ref a0]) rfl ?_
  cases hq102 : qSi Z a0 15 2 ((-1)) with
  | none => rw [hq102] at h; cases h
  | some Z101 =>
    rw [hq102, mjBp_some] at h
    refine pE_pI rfl rfl (by decide) (by decide) hq102 ?_
    simp only [Option.some.injEq, Prod.mk.injEq] at h
    obtain ⟨-, rfl⟩ := h
    exact pE_ret (r := none) rfl ⟨rfl, rfl⟩
def g195_next (sg : Nat → Nat) (a0 : Nat) (p0 : Int32) (Z : mjQ) : Option (Int32 × mjQ) :=
  mjBp (qI Z.2 a0 16 15) fun v101 =>
  mjBp (qSi Z a0 16 15 (v101 + 1)) fun Z103 =>
  mjBp (qR Z103.2 a0 16 14) fun v105 =>
  mjBp (qI Z103.2 a0 16 15) fun v107 =>
  mjBp (g185_pick v105 v107 p0 Z103) fun v110 =>
  some (v110, Z103)
set_option maxRecDepth 100000 in
theorem g195_next_ok {sg : Nat → Nat} {a0 : Nat} {p0 : Int32} {Z : mjQ} {v9 : Int32} {Z9 : mjQ} (h : g195_next sg a0 p0 Z = some (v9, Z9)) : pE sg 3 195 0 (mjEnt [.ref a0, .int p0] (mjML 195)) [] Z (fun r M1 => r = some (.int v9) ∧ M1 = Z9) := by
  unfold g195_next at h
  show pE sg 3 195 0 [some (.ref a0), some (.int p0)] [] Z _
  refine pE_many 2 (pc1 := 2) (L1 := [some (.ref a0), some (.int p0)]) (st1 := [.ref a0, .ref a0]) rfl ?_
  cases hq102 : qI Z.2 a0 16 15 with
  | none => rw [hq102] at h; cases h
  | some v101 =>
    rw [hq102, mjBp_some] at h
    refine pE_gI rfl rfl hq102 ?_
    refine pE_many 2 (pc1 := 7) (L1 := [some (.ref a0), some (.int p0)]) (st1 := [.int (v101 + 1), .ref a0]) rfl ?_
    cases hq104 : qSi Z a0 16 15 (v101 + 1) with
    | none => rw [hq104] at h; cases h
    | some Z103 =>
      rw [hq104, mjBp_some] at h
      refine pE_pI rfl rfl (by decide) (by decide) hq104 ?_
      refine pE_many 1 (pc1 := 11) (L1 := [some (.ref a0), some (.int p0)]) (st1 := [.ref a0]) rfl ?_
      cases hq106 : qR Z103.2 a0 16 14 with
      | none => rw [hq106] at h; cases h
      | some v105 =>
        rw [hq106, mjBp_some] at h
        refine pE_gR rfl rfl hq106 ?_
        refine pE_many 1 (pc1 := 15) (L1 := [some (.ref a0), some (.int p0)]) (st1 := [.ref a0, .ref v105]) rfl ?_
        cases hq108 : qI Z103.2 a0 16 15 with
        | none => rw [hq108] at h; cases h
        | some v107 =>
          rw [hq108, mjBp_some] at h
          refine pE_gI rfl rfl hq108 ?_
          refine pE_many 1 (pc1 := 19) (L1 := [some (.ref a0), some (.int p0)]) (st1 := [.int p0, .int v107, .ref v105]) rfl ?_
          cases hq109 : g185_pick v105 v107 p0 Z103 with
          | none => rw [hq109] at h; cases h
          | some v110 =>
            rw [hq109, mjBp_some] at h
            refine pE_call (k2 := 185) (As := [.ref v105, .int v107, .int p0]) (rest := []) (w := 3) rfl (by decide) (by decide) (g185_pick_ok hq109) ?_
            show pE sg 3 195 22 [some (.ref a0), some (.int p0)] [.int v110] Z103 _
            simp only [Option.some.injEq, Prod.mk.injEq] at h
            obtain ⟨rfl, rfl⟩ := h
            exact pE_ret (r := some (.int v110)) rfl ⟨rfl, rfl⟩
def g249_size (a0 : Nat) (Z : mjQ) : Option Int32 :=
  mjBp (qI Z.2 a0 20 2) fun v101 =>
  some v101
theorem g249_size_ok {sg : Nat → Nat} {a0 : Nat} {Z : mjQ} {v9 : Int32} (h : g249_size a0 Z = some v9) : pE sg 1 249 0 (mjEnt [.ref a0] (mjML 249)) [] Z (fun r M1 => r = some (.int v9) ∧ M1 = Z) := by
  unfold g249_size at h
  show pE sg 1 249 0 [some (.ref a0)] [] Z _
  refine pE_many 1 (pc1 := 1) (L1 := [some (.ref a0)]) (st1 := [.ref a0]) rfl ?_
  cases hq102 : qI Z.2 a0 20 2 with
  | none => rw [hq102] at h; cases h
  | some v101 =>
    rw [hq102, mjBp_some] at h
    refine pE_gI rfl rfl hq102 ?_
    simp only [Option.some.injEq] at h
    subst h
    exact pE_ret (r := some (.int v101)) rfl ⟨rfl, rfl⟩
def g196_teams (a0 : Nat) (Z : mjQ) : Option Int32 :=
  mjBp (qR Z.2 a0 16 8) fun v101 =>
  if mjRo Z.2 v101 20 = true then
  mjBp (g249_size v101 Z) fun v105 =>
  some v105
  else none
set_option maxRecDepth 100000 in
theorem g196_teams_ok {sg : Nat → Nat} {a0 : Nat} {Z : mjQ} {v9 : Int32} (h : g196_teams a0 Z = some v9) : pE sg 2 196 0 (mjEnt [.ref a0] (mjML 196)) [] Z (fun r M1 => r = some (.int v9) ∧ M1 = Z) := by
  unfold g196_teams at h
  show pE sg 2 196 0 [some (.ref a0)] [] Z _
  refine pE_many 1 (pc1 := 1) (L1 := [some (.ref a0)]) (st1 := [.ref a0]) rfl ?_
  cases hq102 : qR Z.2 a0 16 8 with
  | none => rw [hq102] at h; cases h
  | some v101 =>
    rw [hq102, mjBp_some] at h
    refine pE_gR rfl rfl hq102 ?_
    have hk103 : mjRo Z.2 v101 20 = true := by
      by_cases q9 : mjRo Z.2 v101 20 = true
      · exact q9
      · rw [if_neg q9] at h; cases h
    rw [if_pos hk103] at h
    cases hq104 : g249_size v101 Z with
    | none => rw [hq104] at h; cases h
    | some v105 =>
      rw [hq104, mjBp_some] at h
      refine pE_callI (k2 := 249) (As := []) (rest := []) rfl rfl rfl rfl rfl rfl hk103 (by decide) (by decide) (by decide) (g249_size_ok hq104) ?_
      show pE sg 2 196 9 [some (.ref a0)] [.int v105] Z _
      simp only [Option.some.injEq] at h
      subst h
      exact pE_ret (r := some (.int v105)) rfl ⟨rfl, rfl⟩
def g223_valueOf (sg : Nat → Nat) (p0 : Int32) (Z : mjQ) : Option (Nat × mjQ) :=
  if mjCmp .lt p0 ((-128)) = true then
    mjBq (qNew sg Z (17, 0)) fun v102 Z104 =>
    none
  else
    if mjCmp .gt p0 127 = true then
      mjBq (qNew sg Z (17, 0)) fun v106 Z108 =>
      none
    else
      mjBp (qAa Z.2 1300004 (p0 + 128)) fun v109 =>
      some (v109, Z)
theorem g223_valueOf_ok {sg : Nat → Nat} {p0 : Int32} {Z : mjQ} {v9 : Nat} {Z9 : mjQ} (h : g223_valueOf sg p0 Z = some (v9, Z9)) : pE sg 1 223 0 (mjEnt [.int p0] (mjML 223)) [] Z (fun r M1 => r = some (.ref v9) ∧ M1 = Z9) := by
  unfold g223_valueOf at h
  show pE sg 1 223 0 [some (.int p0)] [] Z _
  refine pE_many 2 (pc1 := 3) (L1 := [some (.int p0)]) (st1 := [.int ((-128)), .int p0]) rfl ?_
  by_cases hc101 : mjCmp .lt p0 ((-128)) = true
  · rw [if_pos hc101] at h
    refine pE_cmt (t := 23) rfl rfl hc101 ?_
    cases hq103 : qNew sg Z (17, 0) with
    | none => rw [hq103] at h; cases h
    | some w =>
      obtain ⟨v102, Z104⟩ := w
      rw [hq103, mjBq_some] at h
      refine pE_newO rfl rfl (by decide) hq103 ?_
      refine pE_many 2 (pc1 := 28) (L1 := [some (.int p0)]) (st1 := [.int p0, .ref v102, .ref v102]) rfl ?_
      cases h
  · rw [if_neg hc101] at h
    refine pE_cmf (t := 23) rfl rfl hc101 ?_
    refine pE_many 2 (pc1 := 10) (L1 := [some (.int p0)]) (st1 := [.int 127, .int p0]) rfl ?_
    by_cases hc105 : mjCmp .gt p0 127 = true
    · rw [if_pos hc105] at h
      refine pE_cmt (t := 23) rfl rfl hc105 ?_
      cases hq107 : qNew sg Z (17, 0) with
      | none => rw [hq107] at h; cases h
      | some w =>
        obtain ⟨v106, Z108⟩ := w
        rw [hq107, mjBq_some] at h
        refine pE_newO rfl rfl (by decide) hq107 ?_
        refine pE_many 2 (pc1 := 28) (L1 := [some (.int p0)]) (st1 := [.int p0, .ref v106, .ref v106]) rfl ?_
        cases h
    · rw [if_neg hc105] at h
      refine pE_cmf (t := 23) rfl rfl hc105 ?_
      refine pE_many 4 (pc1 := 21) (L1 := [some (.int p0)]) (st1 := [.int (p0 + 128), .ref 1300004]) rfl ?_
      cases hq110 : qAa Z.2 1300004 (p0 + 128) with
      | none => rw [hq110] at h; cases h
      | some v109 =>
        rw [hq110, mjBp_some] at h
        refine pE_aal rfl hq110 ?_
        simp only [Option.some.injEq, Prod.mk.injEq] at h
        obtain ⟨rfl, rfl⟩ := h
        exact pE_ret (r := some (.ref v109)) rfl ⟨rfl, rfl⟩
def g202_init (sg : Nat → Nat) (a0 : Nat) (p0 : Int32) (Z : mjQ) : Option (Unit × mjQ) :=
  if mjCmp .eq 1 0 = true then
    none
  else
    mjBq (qNewA sg Z 118 p0) fun v102 Z104 =>
    mjBp (qSr Z104 a0 19 0 (some v102)) fun Z105 =>
    mjBp (qSi Z105 a0 19 1 0) fun Z107 =>
    some ((), Z107)
theorem g202_init_ok {sg : Nat → Nat} {a0 : Nat} {p0 : Int32} {Z : mjQ} {v9 : Unit} {Z9 : mjQ} (h : g202_init sg a0 p0 Z = some (v9, Z9)) : pE sg 2 202 0 (mjEnt [.ref a0, .int p0] (mjML 202)) [] Z (fun r M1 => r = none ∧ M1 = Z9) := by
  unfold g202_init at h
  show pE sg 2 202 0 [some (.ref a0), some (.int p0)] [] Z _
  refine pE_many 1 (pc1 := 1) (L1 := [some (.ref a0), some (.int p0)]) (st1 := [.ref a0]) rfl ?_
  refine pE_obj (As := [.ref a0]) (rest := []) (w := 3) rfl (by first | decide | omega) ?_
  refine pE_many 1 (pc1 := 7) (L1 := [some (.ref a0), some (.int p0)]) (st1 := [.int 1]) rfl ?_
  by_cases hc101 : mjCmp .eq 1 0 = true
  · rw [if_pos hc101] at h
    refine pE_ift (t := 25) rfl rfl hc101 ?_
    refine pE_many 2 (pc1 := 27) (L1 := [some (.ref a0), some (.int p0)]) (st1 := [.int p0, .ref a0]) rfl ?_
    cases h
  · rw [if_neg hc101] at h
    refine pE_iff (t := 25) rfl rfl hc101 ?_
    refine pE_many 2 (pc1 := 12) (L1 := [some (.ref a0), some (.int p0)]) (st1 := [.int p0, .ref a0]) rfl ?_
    cases hq103 : qNewA sg Z 118 p0 with
    | none => rw [hq103] at h; cases h
    | some w =>
      obtain ⟨v102, Z104⟩ := w
      rw [hq103, mjBq_some] at h
      refine pE_newA rfl rfl rfl rfl rfl (by decide) hq103 ?_
      cases hq106 : qSr Z104 a0 19 0 (some v102) with
      | none => rw [hq106] at h; cases h
      | some Z105 =>
        rw [hq106, mjBp_some] at h
        refine pE_pR (o := some v102) rfl rfl (by decide) (by decide) hq106 ?_
        refine pE_many 2 (pc1 := 19) (L1 := [some (.ref a0), some (.int p0)]) (st1 := [.int 0, .ref a0]) rfl ?_
        cases hq108 : qSi Z105 a0 19 1 0 with
        | none => rw [hq108] at h; cases h
        | some Z107 =>
          rw [hq108, mjBp_some] at h
          refine pE_pI rfl rfl (by decide) (by decide) hq108 ?_
          refine pE_many 1 (pc1 := 38) (L1 := [some (.ref a0), some (.int p0)]) (st1 := []) rfl ?_
          simp only [Option.some.injEq, Prod.mk.injEq] at h
          obtain ⟨-, rfl⟩ := h
          exact pE_ret (r := none) rfl ⟨rfl, rfl⟩
def g227_init (sg : Nat → Nat) (a0 : Nat) (Z : mjQ) : Option (Unit × mjQ) :=
  mjBq (g202_init sg a0 16 Z) fun _ Z103 =>
  some ((), Z103)
theorem g227_init_ok {sg : Nat → Nat} {a0 : Nat} {Z : mjQ} {v9 : Unit} {Z9 : mjQ} (h : g227_init sg a0 Z = some (v9, Z9)) : pE sg 3 227 0 (mjEnt [.ref a0] (mjML 227)) [] Z (fun r M1 => r = none ∧ M1 = Z9) := by
  unfold g227_init at h
  show pE sg 3 227 0 [some (.ref a0)] [] Z _
  refine pE_many 2 (pc1 := 3) (L1 := [some (.ref a0)]) (st1 := [.int 16, .ref a0]) rfl ?_
  cases hq101 : g202_init sg a0 16 Z with
  | none => rw [hq101] at h; cases h
  | some w =>
    obtain ⟨v102, Z103⟩ := w
    rw [hq101, mjBq_some] at h
    refine pE_call (k2 := 202) (As := [.ref a0, .int 16]) (rest := []) (w := 3) rfl (by decide) (by decide) (g202_init_ok hq101) ?_
    show pE sg 3 227 6 [some (.ref a0)] [] Z103 _
    simp only [Option.some.injEq, Prod.mk.injEq] at h
    obtain ⟨-, rfl⟩ := h
    exact pE_ret (r := none) rfl ⟨rfl, rfl⟩
def g232_append (sg : Nat → Nat) (a0 : Nat) (p0 : Nat) (Z : mjQ) : Option (Nat × mjQ) :=
  if mjRo Z.2 a0 19 = true then
  mjBq (g233_append sg a0 p0 Z) fun v103 Z104 =>
  some (v103, Z104)
  else none
theorem g232_append_ok {sg : Nat → Nat} {a0 : Nat} {p0 : Nat} {Z : mjQ} {v9 : Nat} {Z9 : mjQ} (h : g232_append sg a0 p0 Z = some (v9, Z9)) : pE sg 7 232 0 (mjEnt [.ref a0, .ref p0] (mjML 232)) [] Z (fun r M1 => r = some (.ref v9) ∧ M1 = Z9) := by
  unfold g232_append at h
  show pE sg 7 232 0 [some (.ref a0), some (.ref p0)] [] Z _
  refine pE_many 2 (pc1 := 2) (L1 := [some (.ref a0), some (.ref p0)]) (st1 := [.ref p0, .ref a0]) rfl ?_
  have hk101 : mjRo Z.2 a0 19 = true := by
    by_cases q9 : mjRo Z.2 a0 19 = true
    · exact q9
    · rw [if_neg q9] at h; cases h
  rw [if_pos hk101] at h
  cases hq102 : g233_append sg a0 p0 Z with
  | none => rw [hq102] at h; cases h
  | some w =>
    obtain ⟨v103, Z104⟩ := w
    rw [hq102, mjBq_some] at h
    refine pE_callV (k2 := 233) (As := [.ref p0]) (rest := []) rfl rfl rfl rfl rfl rfl hk101 (by decide) (by decide) (by decide) (g233_append_ok hq102) ?_
    show pE sg 7 232 5 [some (.ref a0), some (.ref p0)] [.ref v103] Z104 _
    simp only [Option.some.injEq, Prod.mk.injEq] at h
    obtain ⟨rfl, rfl⟩ := h
    exact pE_ret (r := some (.ref v103)) rfl ⟨rfl, rfl⟩
def g203_init_j24 (sg : Nat → Nat) (x0 : Nat) (x1 : Nat) (s0 : Int32) (Z : mjQ) : Option (Unit × mjQ) :=
  if mjRo Z.2 x1 18 = true then
  mjBp (g171_coder x1 Z) fun v108 =>
  mjBp (qSi Z x0 19 1 v108) fun Z110 =>
  if mjCmp .ne v108 0 = true then
    none
  else
    mjBq (qNewA sg Z110 118 s0) fun v113 Z115 =>
    mjBp (qSr Z115 x0 19 0 (some v113)) fun Z116 =>
    if mjRo Z116.2 x0 19 = true then
    mjBq (g232_append sg x0 x1 Z116) fun v120 Z121 =>
    some ((), Z121)
    else none
  else none
theorem g203_init_j24_ok {sg : Nat → Nat} (x0 : Nat) (x1 : Nat) (s0 : Int32) (d2 d3 d4 : Option Value) (Z : mjQ) (v9 : Unit) (Z9 : mjQ) (h : g203_init_j24 sg x0 x1 s0 Z = some (v9, Z9)) : pE sg 8 203 24 [some (.ref x0), some (.ref x1), d2, d3, d4] [.int s0] Z (fun r M1 => r = none ∧ M1 = Z9) := by
  unfold g203_init_j24 at h
  refine pE_many 2 (pc1 := 26) (L1 := [some (.ref x0), some (.ref x1), (mjK1 d2), some (.int s0), d4]) (st1 := [.ref x1]) rfl ?_
  have hk106 : mjRo Z.2 x1 18 = true := by
    by_cases q9 : mjRo Z.2 x1 18 = true
    · exact q9
    · rw [if_neg q9] at h; cases h
  rw [if_pos hk106] at h
  cases hq107 : g171_coder x1 Z with
  | none => rw [hq107] at h; cases h
  | some v108 =>
    rw [hq107, mjBp_some] at h
    refine pE_callV (k2 := 171) (As := []) (rest := []) rfl rfl rfl rfl rfl rfl hk106 (by decide) (by decide) (by decide) (g171_coder_ok hq107) ?_
    show pE sg 8 203 29 [some (.ref x0), some (.ref x1), (mjK1 d2), some (.int s0), d4] [.int v108] Z _
    refine pE_many 3 (pc1 := 34) (L1 := [some (.ref x0), some (.ref x1), (mjK1 d2), some (.int s0), some (.int v108)]) (st1 := [.int v108, .ref x0]) rfl ?_
    cases hq111 : qSi Z x0 19 1 v108 with
    | none => rw [hq111] at h; cases h
    | some Z110 =>
      rw [hq111, mjBp_some] at h
      refine pE_pI rfl rfl (by decide) (by decide) hq111 ?_
      refine pE_many 2 (pc1 := 40) (L1 := [some (.ref x0), some (.ref x1), (mjK1 d2), some (.int s0), some (.int v108)]) (st1 := [.int v108, .ref x0]) rfl ?_
      by_cases hc112 : mjCmp .ne v108 0 = true
      · rw [if_pos hc112] at h
        refine pE_ift (t := 49) rfl rfl hc112 ?_
        refine pE_many 1 (pc1 := 50) (L1 := [some (.ref x0), some (.ref x1), (mjK1 d2), some (.int s0), some (.int v108)]) (st1 := [.int s0, .ref x0]) rfl ?_
        cases h
      · rw [if_neg hc112] at h
        refine pE_iff (t := 49) rfl rfl hc112 ?_
        refine pE_many 1 (pc1 := 44) (L1 := [some (.ref x0), some (.ref x1), (mjK1 d2), some (.int s0), some (.int v108)]) (st1 := [.int s0, .ref x0]) rfl ?_
        cases hq114 : qNewA sg Z110 118 s0 with
        | none => rw [hq114] at h; cases h
        | some w =>
          obtain ⟨v113, Z115⟩ := w
          rw [hq114, mjBq_some] at h
          refine pE_newA rfl rfl rfl rfl rfl (by decide) hq114 ?_
          refine pE_many 1 (pc1 := 53) (L1 := [some (.ref x0), some (.ref x1), (mjK1 d2), some (.int s0), some (.int v108)]) (st1 := [.ref v113, .ref x0]) rfl ?_
          cases hq117 : qSr Z115 x0 19 0 (some v113) with
          | none => rw [hq117] at h; cases h
          | some Z116 =>
            rw [hq117, mjBp_some] at h
            refine pE_pR (o := some v113) rfl rfl (by decide) (by decide) hq117 ?_
            refine pE_many 2 (pc1 := 58) (L1 := [some (.ref x0), some (.ref x1), (mjK1 d2), some (.int s0), some (.int v108)]) (st1 := [.ref x1, .ref x0]) rfl ?_
            have hk118 : mjRo Z116.2 x0 19 = true := by
              by_cases q9 : mjRo Z116.2 x0 19 = true
              · exact q9
              · rw [if_neg q9] at h; cases h
            rw [if_pos hk118] at h
            cases hq119 : g232_append sg x0 x1 Z116 with
            | none => rw [hq119] at h; cases h
            | some w =>
              obtain ⟨v120, Z121⟩ := w
              rw [hq119, mjBq_some] at h
              refine pE_callV (k2 := 232) (As := [.ref x1]) (rest := []) rfl rfl rfl rfl rfl rfl hk118 (by decide) (by decide) (by decide) (g232_append_ok hq119) ?_
              show pE sg 8 203 61 [some (.ref x0), some (.ref x1), (mjK1 d2), some (.int s0), some (.int v108)] [.ref v120] Z121 _
              refine pE_many 1 (pc1 := 62) (L1 := [some (.ref x0), some (.ref x1), (mjK1 d2), some (.int s0), some (.int v108)]) (st1 := []) rfl ?_
              simp only [Option.some.injEq, Prod.mk.injEq] at h
              obtain ⟨-, rfl⟩ := h
              exact pE_ret (r := none) rfl ⟨rfl, rfl⟩
def g203_init (sg : Nat → Nat) (a0 : Nat) (p0 : Nat) (Z : mjQ) : Option (Unit × mjQ) :=
  if mjRo Z.2 p0 18 = true then
  mjBp (g170_length p0 Z) fun v103 =>
  if mjCmp .ge v103 2147483631 = true then
    g203_init_j24 sg a0 p0 2147483647 Z
  else
    g203_init_j24 sg a0 p0 (v103 + 16) Z
  else none
theorem g203_init_ok {sg : Nat → Nat} {a0 : Nat} {p0 : Nat} {Z : mjQ} {v9 : Unit} {Z9 : mjQ} (h : g203_init sg a0 p0 Z = some (v9, Z9)) : pE sg 8 203 0 (mjEnt [.ref a0, .ref p0] (mjML 203)) [] Z (fun r M1 => r = none ∧ M1 = Z9) := by
  unfold g203_init at h
  show pE sg 8 203 0 [some (.ref a0), some (.ref p0), none, none, none] [] Z _
  refine pE_many 1 (pc1 := 1) (L1 := [some (.ref a0), some (.ref p0), none, none, none]) (st1 := [.ref a0]) rfl ?_
  refine pE_obj (As := [.ref a0]) (rest := []) (w := 3) rfl (by first | decide | omega) ?_
  refine pE_many 1 (pc1 := 5) (L1 := [some (.ref a0), some (.ref p0), none, none, none]) (st1 := [.ref p0]) rfl ?_
  have hk101 : mjRo Z.2 p0 18 = true := by
    by_cases q9 : mjRo Z.2 p0 18 = true
    · exact q9
    · rw [if_neg q9] at h; cases h
  rw [if_pos hk101] at h
  cases hq102 : g170_length p0 Z with
  | none => rw [hq102] at h; cases h
  | some v103 =>
    rw [hq102, mjBp_some] at h
    refine pE_callV (k2 := 170) (As := []) (rest := []) rfl rfl rfl rfl rfl rfl hk101 (by decide) (by decide) (by decide) (g170_length_ok hq102) ?_
    show pE sg 8 203 8 [some (.ref a0), some (.ref p0), none, none, none] [.int v103] Z _
    refine pE_many 3 (pc1 := 12) (L1 := [some (.ref a0), some (.ref p0), some (.int v103), none, none]) (st1 := [.int 2147483631, .int v103]) rfl ?_
    by_cases hc105 : mjCmp .ge v103 2147483631 = true
    · rw [if_pos hc105] at h
      refine pE_cmt (t := 22) rfl rfl hc105 ?_
      refine pE_many 1 (pc1 := 24) (L1 := [some (.ref a0), some (.ref p0), some (.int v103), none, none]) (st1 := [.int 2147483647]) rfl ?_
      exact g203_init_j24_ok a0 p0 2147483647 (some (.int v103)) none none Z v9 Z9 h
    · rw [if_neg hc105] at h
      refine pE_cmf (t := 22) rfl rfl hc105 ?_
      refine pE_many 4 (pc1 := 24) (L1 := [some (.ref a0), some (.ref p0), some (.int v103), none, none]) (st1 := [.int (v103 + 16)]) rfl ?_
      exact g203_init_j24_ok a0 p0 (v103 + 16) (some (.int v103)) none none Z v9 Z9 h
def g228_init (sg : Nat → Nat) (a0 : Nat) (p0 : Nat) (Z : mjQ) : Option (Unit × mjQ) :=
  mjBq (g203_init sg a0 p0 Z) fun _ Z103 =>
  some ((), Z103)
theorem g228_init_ok {sg : Nat → Nat} {a0 : Nat} {p0 : Nat} {Z : mjQ} {v9 : Unit} {Z9 : mjQ} (h : g228_init sg a0 p0 Z = some (v9, Z9)) : pE sg 9 228 0 (mjEnt [.ref a0, .ref p0] (mjML 228)) [] Z (fun r M1 => r = none ∧ M1 = Z9) := by
  unfold g228_init at h
  show pE sg 9 228 0 [some (.ref a0), some (.ref p0)] [] Z _
  refine pE_many 2 (pc1 := 2) (L1 := [some (.ref a0), some (.ref p0)]) (st1 := [.ref p0, .ref a0]) rfl ?_
  cases hq101 : g203_init sg a0 p0 Z with
  | none => rw [hq101] at h; cases h
  | some w =>
    obtain ⟨v102, Z103⟩ := w
    rw [hq101, mjBq_some] at h
    refine pE_call (k2 := 203) (As := [.ref a0, .ref p0]) (rest := []) (w := 3) rfl (by decide) (by decide) (g203_init_ok hq101) ?_
    show pE sg 9 228 5 [some (.ref a0), some (.ref p0)] [] Z103 _
    simp only [Option.some.injEq, Prod.mk.injEq] at h
    obtain ⟨-, rfl⟩ := h
    exact pE_ret (r := none) rfl ⟨rfl, rfl⟩
def g236_canEncode (p0 : Int32) (Z : mjQ) : Option Int32 :=
  if mjCmp .gt p0 255 = true then
    some 0
  else
    some 1
theorem g236_canEncode_ok {sg : Nat → Nat} {p0 : Int32} {Z : mjQ} {v9 : Int32} (h : g236_canEncode p0 Z = some v9) : pE sg 1 236 0 (mjEnt [.int p0] (mjML 236)) [] Z (fun r M1 => r = some (.int v9) ∧ M1 = Z) := by
  unfold g236_canEncode at h
  show pE sg 1 236 0 [some (.int p0)] [] Z _
  refine pE_many 2 (pc1 := 4) (L1 := [some (.int p0)]) (st1 := [.int 255, .int p0]) rfl ?_
  by_cases hc101 : mjCmp .gt p0 255 = true
  · rw [if_pos hc101] at h
    refine pE_cmt (t := 11) rfl rfl hc101 ?_
    refine pE_many 1 (pc1 := 12) (L1 := [some (.int p0)]) (st1 := [.int 0]) rfl ?_
    simp only [Option.some.injEq] at h
    subst h
    exact pE_ret (r := some (.int 0)) rfl ⟨rfl, rfl⟩
  · rw [if_neg hc101] at h
    refine pE_cmf (t := 11) rfl rfl hc101 ?_
    refine pE_many 2 (pc1 := 12) (L1 := [some (.int p0)]) (st1 := [.int 1]) rfl ?_
    simp only [Option.some.injEq] at h
    subst h
    exact pE_ret (r := some (.int 1)) rfl ⟨rfl, rfl⟩
def g204_append_j56 (sg : Nat → Nat) (x0 : Nat) (x1 : Int32) (Z : mjQ) : Option (Nat × mjQ) :=
  mjBp (qR Z.2 x0 19 0) fun v117 =>
  mjBp (qI Z.2 x0 19 3) fun v119 =>
  mjBp (qSi Z x0 19 3 (v119 + 1)) fun Z121 =>
  none
theorem g204_append_j56_ok {sg : Nat → Nat} (x0 : Nat) (x1 : Int32) (Z : mjQ) (v9 : Nat) (Z9 : mjQ) (h : g204_append_j56 sg x0 x1 Z = some (v9, Z9)) : pE sg 5 204 56 [some (.ref x0), some (.int x1)] [] Z (fun r M1 => r = some (.ref v9) ∧ M1 = Z9) := by
  unfold g204_append_j56 at h
  refine pE_many 1 (pc1 := 57) (L1 := [some (.ref x0), some (.int x1)]) (st1 := [.ref x0]) rfl ?_
  cases hq118 : qR Z.2 x0 19 0 with
  | none => rw [hq118] at h; cases h
  | some v117 =>
    rw [hq118, mjBp_some] at h
    refine pE_gR rfl rfl hq118 ?_
    refine pE_many 2 (pc1 := 62) (L1 := [some (.ref x0), some (.int x1)]) (st1 := [.ref x0, .ref x0, .ref v117]) rfl ?_
    cases hq120 : qI Z.2 x0 19 3 with
    | none => rw [hq120] at h; cases h
    | some v119 =>
      rw [hq120, mjBp_some] at h
      refine pE_gI rfl rfl hq120 ?_
      refine pE_many 3 (pc1 := 68) (L1 := [some (.ref x0), some (.int x1)]) (st1 := [.int (v119 + 1), .ref x0, .int v119, .ref v117]) rfl ?_
      cases hq122 : qSi Z x0 19 3 (v119 + 1) with
      | none => rw [hq122] at h; cases h
      | some Z121 =>
        rw [hq122, mjBp_some] at h
        refine pE_pI rfl rfl (by decide) (by decide) hq122 ?_
        refine pE_many 1 (pc1 := 72) (L1 := [some (.ref x0), some (.int x1)]) (st1 := [.int x1, .int v119, .ref v117]) rfl ?_
        cases h
def g204_append_j45 (sg : Nat → Nat) (x0 : Nat) (x1 : Int32) (Z : mjQ) : Option (Nat × mjQ) :=
  if mjRo Z.2 x0 19 = true then
  mjBp (g215_isLatin1 x0 Z) fun v114 =>
  if mjCmp .eq v114 0 = true then
    g204_append_j56 sg x0 x1 Z
  else
    none
  else none
theorem g204_append_j45_ok {sg : Nat → Nat} (x0 : Nat) (x1 : Int32) (Z : mjQ) (v9 : Nat) (Z9 : mjQ) (h : g204_append_j45 sg x0 x1 Z = some (v9, Z9)) : pE sg 5 204 45 [some (.ref x0), some (.int x1)] [] Z (fun r M1 => r = some (.ref v9) ∧ M1 = Z9) := by
  unfold g204_append_j45 at h
  refine pE_many 1 (pc1 := 46) (L1 := [some (.ref x0), some (.int x1)]) (st1 := [.ref x0]) rfl ?_
  have hk112 : mjRo Z.2 x0 19 = true := by
    by_cases q9 : mjRo Z.2 x0 19 = true
    · exact q9
    · rw [if_neg q9] at h; cases h
  rw [if_pos hk112] at h
  cases hq113 : g215_isLatin1 x0 Z with
  | none => rw [hq113] at h; cases h
  | some v114 =>
    rw [hq113, mjBp_some] at h
    refine pE_callV (k2 := 215) (As := []) (rest := []) rfl rfl rfl rfl rfl rfl hk112 (by decide) (by decide) (by decide) (g215_isLatin1_ok hq113) ?_
    show pE sg 5 204 49 [some (.ref x0), some (.int x1)] [.int v114] Z _
    by_cases hc116 : mjCmp .eq v114 0 = true
    · rw [if_pos hc116] at h
      refine pE_ift (t := 56) rfl rfl hc116 ?_
      exact g204_append_j56_ok x0 x1 Z v9 Z9 h
    · rw [if_neg hc116] at h
      refine pE_iff (t := 56) rfl rfl hc116 ?_
      refine pE_many 1 (pc1 := 53) (L1 := [some (.ref x0), some (.int x1)]) (st1 := [.ref x0]) rfl ?_
      cases h
def g204_append (sg : Nat → Nat) (a0 : Nat) (p0 : Int32) (Z : mjQ) : Option (Nat × mjQ) :=
  mjBp (qI Z.2 a0 19 3) fun v101 =>
  if mjRo Z.2 a0 19 = true then
  mjBq (g209_ensureCapacityInternal sg a0 (v101 + 1) Z) fun _ Z106 =>
  if mjRo Z106.2 a0 19 = true then
  mjBp (g215_isLatin1 a0 Z106) fun v109 =>
  if mjCmp .eq v109 0 = true then
    g204_append_j45 sg a0 p0 Z106
  else
    mjBp (g236_canEncode p0 Z106) fun v124 =>
    if mjCmp .eq v124 0 = true then
      g204_append_j45 sg a0 p0 Z106
    else
      mjBp (qR Z106.2 a0 19 0) fun v127 =>
      mjBp (qI Z106.2 a0 19 3) fun v129 =>
      mjBp (qSi Z106 a0 19 3 (v129 + 1)) fun Z131 =>
      mjBp (qSba Z131 v127 v129 p0.toInt8.toInt32) fun Z133 =>
      some (a0, Z133)
  else none
  else none
theorem g204_append_ok {sg : Nat → Nat} {a0 : Nat} {p0 : Int32} {Z : mjQ} {v9 : Nat} {Z9 : mjQ} (h : g204_append sg a0 p0 Z = some (v9, Z9)) : pE sg 5 204 0 (mjEnt [.ref a0, .int p0] (mjML 204)) [] Z (fun r M1 => r = some (.ref v9) ∧ M1 = Z9) := by
  unfold g204_append at h
  show pE sg 5 204 0 [some (.ref a0), some (.int p0)] [] Z _
  refine pE_many 2 (pc1 := 2) (L1 := [some (.ref a0), some (.int p0)]) (st1 := [.ref a0, .ref a0]) rfl ?_
  cases hq102 : qI Z.2 a0 19 3 with
  | none => rw [hq102] at h; cases h
  | some v101 =>
    rw [hq102, mjBp_some] at h
    refine pE_gI rfl rfl hq102 ?_
    refine pE_many 2 (pc1 := 7) (L1 := [some (.ref a0), some (.int p0)]) (st1 := [.int (v101 + 1), .ref a0]) rfl ?_
    have hk103 : mjRo Z.2 a0 19 = true := by
      by_cases q9 : mjRo Z.2 a0 19 = true
      · exact q9
      · rw [if_neg q9] at h; cases h
    rw [if_pos hk103] at h
    cases hq104 : g209_ensureCapacityInternal sg a0 (v101 + 1) Z with
    | none => rw [hq104] at h; cases h
    | some w =>
      obtain ⟨v105, Z106⟩ := w
      rw [hq104, mjBq_some] at h
      refine pE_callV (k2 := 209) (As := [.int (v101 + 1)]) (rest := []) rfl rfl rfl rfl rfl rfl hk103 (by decide) (by decide) (by decide) (g209_ensureCapacityInternal_ok hq104) ?_
      show pE sg 5 204 10 [some (.ref a0), some (.int p0)] [] Z106 _
      refine pE_many 1 (pc1 := 11) (L1 := [some (.ref a0), some (.int p0)]) (st1 := [.ref a0]) rfl ?_
      have hk107 : mjRo Z106.2 a0 19 = true := by
        by_cases q9 : mjRo Z106.2 a0 19 = true
        · exact q9
        · rw [if_neg q9] at h; cases h
      rw [if_pos hk107] at h
      cases hq108 : g215_isLatin1 a0 Z106 with
      | none => rw [hq108] at h; cases h
      | some v109 =>
        rw [hq108, mjBp_some] at h
        refine pE_callV (k2 := 215) (As := []) (rest := []) rfl rfl rfl rfl rfl rfl hk107 (by decide) (by decide) (by decide) (g215_isLatin1_ok hq108) ?_
        show pE sg 5 204 14 [some (.ref a0), some (.int p0)] [.int v109] Z106 _
        by_cases hc111 : mjCmp .eq v109 0 = true
        · rw [if_pos hc111] at h
          refine pE_ift (t := 45) rfl rfl hc111 ?_
          exact g204_append_j45_ok a0 p0 Z106 v9 Z9 h
        · rw [if_neg hc111] at h
          refine pE_iff (t := 45) rfl rfl hc111 ?_
          refine pE_many 1 (pc1 := 18) (L1 := [some (.ref a0), some (.int p0)]) (st1 := [.int p0]) rfl ?_
          cases hq123 : g236_canEncode p0 Z106 with
          | none => rw [hq123] at h; cases h
          | some v124 =>
            rw [hq123, mjBp_some] at h
            refine pE_call (k2 := 236) (As := [.int p0]) (rest := []) (w := 3) rfl (by decide) (by decide) (g236_canEncode_ok hq123) ?_
            show pE sg 5 204 21 [some (.ref a0), some (.int p0)] [.int v124] Z106 _
            by_cases hc126 : mjCmp .eq v124 0 = true
            · rw [if_pos hc126] at h
              refine pE_ift (t := 45) rfl rfl hc126 ?_
              exact g204_append_j45_ok a0 p0 Z106 v9 Z9 h
            · rw [if_neg hc126] at h
              refine pE_iff (t := 45) rfl rfl hc126 ?_
              refine pE_many 1 (pc1 := 25) (L1 := [some (.ref a0), some (.int p0)]) (st1 := [.ref a0]) rfl ?_
              cases hq128 : qR Z106.2 a0 19 0 with
              | none => rw [hq128] at h; cases h
              | some v127 =>
                rw [hq128, mjBp_some] at h
                refine pE_gR rfl rfl hq128 ?_
                refine pE_many 2 (pc1 := 30) (L1 := [some (.ref a0), some (.int p0)]) (st1 := [.ref a0, .ref a0, .ref v127]) rfl ?_
                cases hq130 : qI Z106.2 a0 19 3 with
                | none => rw [hq130] at h; cases h
                | some v129 =>
                  rw [hq130, mjBp_some] at h
                  refine pE_gI rfl rfl hq130 ?_
                  refine pE_many 3 (pc1 := 36) (L1 := [some (.ref a0), some (.int p0)]) (st1 := [.int (v129 + 1), .ref a0, .int v129, .ref v127]) rfl ?_
                  cases hq132 : qSi Z106 a0 19 3 (v129 + 1) with
                  | none => rw [hq132] at h; cases h
                  | some Z131 =>
                    rw [hq132, mjBp_some] at h
                    refine pE_pI rfl rfl (by decide) (by decide) hq132 ?_
                    refine pE_many 2 (pc1 := 41) (L1 := [some (.ref a0), some (.int p0)]) (st1 := [.int p0.toInt8.toInt32, .int v129, .ref v127]) rfl ?_
                    cases hq134 : qSba Z131 v127 v129 p0.toInt8.toInt32 with
                    | none => rw [hq134] at h; cases h
                    | some Z133 =>
                      rw [hq134, mjBp_some] at h
                      refine pE_bas rfl (by decide) hq134 ?_
                      refine pE_many 2 (pc1 := 76) (L1 := [some (.ref a0), some (.int p0)]) (st1 := [.ref a0]) rfl ?_
                      simp only [Option.some.injEq, Prod.mk.injEq] at h
                      obtain ⟨rfl, rfl⟩ := h
                      exact pE_ret (r := some (.ref a0)) rfl ⟨rfl, rfl⟩
def g229_append (sg : Nat → Nat) (a0 : Nat) (p0 : Int32) (Z : mjQ) : Option (Nat × mjQ) :=
  if mjRo Z.2 a0 19 = true then
  mjBq (g204_append sg a0 p0 Z) fun v103 Z104 =>
  some (a0, Z104)
  else none
theorem g229_append_ok {sg : Nat → Nat} {a0 : Nat} {p0 : Int32} {Z : mjQ} {v9 : Nat} {Z9 : mjQ} (h : g229_append sg a0 p0 Z = some (v9, Z9)) : pE sg 6 229 0 (mjEnt [.ref a0, .int p0] (mjML 229)) [] Z (fun r M1 => r = some (.ref v9) ∧ M1 = Z9) := by
  unfold g229_append at h
  show pE sg 6 229 0 [some (.ref a0), some (.int p0)] [] Z _
  refine pE_many 2 (pc1 := 2) (L1 := [some (.ref a0), some (.int p0)]) (st1 := [.int p0, .ref a0]) rfl ?_
  have hk101 : mjRo Z.2 a0 19 = true := by
    by_cases q9 : mjRo Z.2 a0 19 = true
    · exact q9
    · rw [if_neg q9] at h; cases h
  rw [if_pos hk101] at h
  cases hq102 : g204_append sg a0 p0 Z with
  | none => rw [hq102] at h; cases h
  | some w =>
    obtain ⟨v103, Z104⟩ := w
    rw [hq102, mjBq_some] at h
    refine pE_callS (k2 := 204) (As := [.int p0]) (rest := []) rfl rfl rfl rfl rfl rfl hk101 (by decide) (by decide) (by decide) (g204_append_ok hq102) ?_
    show pE sg 6 229 5 [some (.ref a0), some (.int p0)] [.ref v103] Z104 _
    refine pE_many 2 (pc1 := 7) (L1 := [some (.ref a0), some (.int p0)]) (st1 := [.ref a0]) rfl ?_
    simp only [Option.some.injEq, Prod.mk.injEq] at h
    obtain ⟨rfl, rfl⟩ := h
    exact pE_ret (r := some (.ref a0)) rfl ⟨rfl, rfl⟩
def g210_getBytes (sg : Nat → Nat) (a0 : Nat) (p0 : Nat) (p1 : Int32) (p2 : Int32) (Z : mjQ) : Option (Unit × mjQ) :=
  mjBp (qI Z.2 a0 19 1) fun v101 =>
  if mjCmp .ne v101 p2 = true then
    mjBp (qR Z.2 a0 19 0) fun v104 =>
    mjBp (qI Z.2 a0 19 3) fun v106 =>
    none
  else
    mjBp (qR Z.2 a0 19 0) fun v108 =>
    mjBp (qI Z.2 a0 19 3) fun v110 =>
    mjBp (qCp 210 [.ref v108, .int 0, .ref p0, .int ((p1 : Int32) <<< ((p2 : Int32) &&& 31)), .int ((v110 : Int32) <<< ((p2 : Int32) &&& 31))] Z) fun Z113 =>
    some ((), Z113)
theorem g210_getBytes_ok {sg : Nat → Nat} {a0 : Nat} {p0 : Nat} {p1 : Int32} {p2 : Int32} {Z : mjQ} {v9 : Unit} {Z9 : mjQ} (h : g210_getBytes sg a0 p0 p1 p2 Z = some (v9, Z9)) : pE sg 2 210 0 (mjEnt [.ref a0, .ref p0, .int p1, .int p2] (mjML 210)) [] Z (fun r M1 => r = none ∧ M1 = Z9) := by
  unfold g210_getBytes at h
  show pE sg 2 210 0 [some (.ref a0), some (.ref p0), some (.int p1), some (.int p2)] [] Z _
  refine pE_many 1 (pc1 := 1) (L1 := [some (.ref a0), some (.ref p0), some (.int p1), some (.int p2)]) (st1 := [.ref a0]) rfl ?_
  cases hq102 : qI Z.2 a0 19 1 with
  | none => rw [hq102] at h; cases h
  | some v101 =>
    rw [hq102, mjBp_some] at h
    refine pE_gI rfl rfl hq102 ?_
    refine pE_many 1 (pc1 := 5) (L1 := [some (.ref a0), some (.ref p0), some (.int p1), some (.int p2)]) (st1 := [.int p2, .int v101]) rfl ?_
    by_cases hc103 : mjCmp .ne v101 p2 = true
    · rw [if_pos hc103] at h
      refine pE_cmt (t := 29) rfl rfl hc103 ?_
      refine pE_many 1 (pc1 := 30) (L1 := [some (.ref a0), some (.ref p0), some (.int p1), some (.int p2)]) (st1 := [.ref a0]) rfl ?_
      cases hq105 : qR Z.2 a0 19 0 with
      | none => rw [hq105] at h; cases h
      | some v104 =>
        rw [hq105, mjBp_some] at h
        refine pE_gR rfl rfl hq105 ?_
        refine pE_many 4 (pc1 := 37) (L1 := [some (.ref a0), some (.ref p0), some (.int p1), some (.int p2)]) (st1 := [.ref a0, .int p1, .ref p0, .int 0, .ref v104]) rfl ?_
        cases hq107 : qI Z.2 a0 19 3 with
        | none => rw [hq107] at h; cases h
        | some v106 =>
          rw [hq107, mjBp_some] at h
          refine pE_gI rfl rfl hq107 ?_
          cases h
    · rw [if_neg hc103] at h
      refine pE_cmf (t := 29) rfl rfl hc103 ?_
      refine pE_many 1 (pc1 := 9) (L1 := [some (.ref a0), some (.ref p0), some (.int p1), some (.int p2)]) (st1 := [.ref a0]) rfl ?_
      cases hq109 : qR Z.2 a0 19 0 with
      | none => rw [hq109] at h; cases h
      | some v108 =>
        rw [hq109, mjBp_some] at h
        refine pE_gR rfl rfl hq109 ?_
        refine pE_many 6 (pc1 := 18) (L1 := [some (.ref a0), some (.ref p0), some (.int p1), some (.int p2)]) (st1 := [.ref a0, .int ((p1 : Int32) <<< ((p2 : Int32) &&& 31)), .ref p0, .int 0, .ref v108]) rfl ?_
        cases hq111 : qI Z.2 a0 19 3 with
        | none => rw [hq111] at h; cases h
        | some v110 =>
          rw [hq111, mjBp_some] at h
          refine pE_gI rfl rfl hq111 ?_
          refine pE_many 2 (pc1 := 23) (L1 := [some (.ref a0), some (.ref p0), some (.int p1), some (.int p2)]) (st1 := [.int ((v110 : Int32) <<< ((p2 : Int32) &&& 31)), .int ((p1 : Int32) <<< ((p2 : Int32) &&& 31)), .ref p0, .int 0, .ref v108]) rfl ?_
          cases hq112 : qCp 210 [.ref v108, .int 0, .ref p0, .int ((p1 : Int32) <<< ((p2 : Int32) &&& 31)), .int ((v110 : Int32) <<< ((p2 : Int32) &&& 31))] Z with
          | none => rw [hq112] at h; cases h
          | some Z113 =>
            rw [hq112, mjBp_some] at h
            refine pE_acp (As := [.ref v108, .int 0, .ref p0, .int ((p1 : Int32) <<< ((p2 : Int32) &&& 31)), .int ((v110 : Int32) <<< ((p2 : Int32) &&& 31))]) (rest := []) (w := 3) rfl (by decide) hq112 ?_
            refine pE_many 1 (pc1 := 43) (L1 := [some (.ref a0), some (.ref p0), some (.int p1), some (.int p2)]) (st1 := []) rfl ?_
            simp only [Option.some.injEq, Prod.mk.injEq] at h
            obtain ⟨-, rfl⟩ := h
            exact pE_ret (r := none) rfl ⟨rfl, rfl⟩
def g211_getCoder (a0 : Nat) (Z : mjQ) : Option Int32 :=
  if mjCmp .eq 1 0 = true then
    some 1
  else
    mjBp (qI Z.2 a0 19 1) fun v102 =>
    if v102.toInt8.toInt32 = v102 then
    some v102
    else none
theorem g211_getCoder_ok {sg : Nat → Nat} {a0 : Nat} {Z : mjQ} {v9 : Int32} (h : g211_getCoder a0 Z = some v9) : pE sg 1 211 0 (mjEnt [.ref a0] (mjML 211)) [] Z (fun r M1 => r = some (.int v9) ∧ M1 = Z) := by
  unfold g211_getCoder at h
  show pE sg 1 211 0 [some (.ref a0)] [] Z _
  refine pE_many 1 (pc1 := 3) (L1 := [some (.ref a0)]) (st1 := [.int 1]) rfl ?_
  by_cases hc101 : mjCmp .eq 1 0 = true
  · rw [if_pos hc101] at h
    refine pE_ift (t := 13) rfl rfl hc101 ?_
    refine pE_many 1 (pc1 := 14) (L1 := [some (.ref a0)]) (st1 := [.int 1]) rfl ?_
    simp only [Option.some.injEq] at h
    subst h
    exact pE_ret (r := some (.int 1)) rfl ⟨rfl, rfl⟩
  · rw [if_neg hc101] at h
    refine pE_iff (t := 13) rfl rfl hc101 ?_
    refine pE_many 1 (pc1 := 7) (L1 := [some (.ref a0)]) (st1 := [.ref a0]) rfl ?_
    cases hq103 : qI Z.2 a0 19 1 with
    | none => rw [hq103] at h; cases h
    | some v102 =>
      rw [hq103, mjBp_some] at h
      refine pE_gI rfl rfl hq103 ?_
      refine pE_many 1 (pc1 := 14) (L1 := [some (.ref a0)]) (st1 := [.int v102]) rfl ?_
      have hk104 : v102.toInt8.toInt32 = v102 := by
        by_cases q9 : v102.toInt8.toInt32 = v102
        · exact q9
        · rw [if_neg q9] at h; cases h
      rw [if_pos hk104] at h
      simp only [Option.some.injEq] at h
      subst h
      exact pE_ret (r := some (.int v102)) (mjRt1_b rfl rfl hk104) ⟨rfl, rfl⟩
def g213_inflateIfNeededFor (sg : Nat → Nat) (a0 : Nat) (p0 : Nat) (Z : mjQ) : Option (Unit × mjQ) :=
  if mjCmp .eq 1 0 = true then
    some ((), Z)
  else
    mjBp (qI Z.2 a0 19 1) fun v102 =>
    if mjRo Z.2 p0 19 = true then
    mjBp (g211_getCoder p0 Z) fun v106 =>
    if mjCmp .eq v102 v106 = true then
      some ((), Z)
    else
      none
    else none
theorem g213_inflateIfNeededFor_ok {sg : Nat → Nat} {a0 : Nat} {p0 : Nat} {Z : mjQ} {v9 : Unit} {Z9 : mjQ} (h : g213_inflateIfNeededFor sg a0 p0 Z = some (v9, Z9)) : pE sg 2 213 0 (mjEnt [.ref a0, .ref p0] (mjML 213)) [] Z (fun r M1 => r = none ∧ M1 = Z9) := by
  unfold g213_inflateIfNeededFor at h
  show pE sg 2 213 0 [some (.ref a0), some (.ref p0)] [] Z _
  refine pE_many 1 (pc1 := 3) (L1 := [some (.ref a0), some (.ref p0)]) (st1 := [.int 1]) rfl ?_
  by_cases hc101 : mjCmp .eq 1 0 = true
  · rw [if_pos hc101] at h
    refine pE_ift (t := 21) rfl rfl hc101 ?_
    simp only [Option.some.injEq, Prod.mk.injEq] at h
    obtain ⟨-, rfl⟩ := h
    exact pE_ret (r := none) rfl ⟨rfl, rfl⟩
  · rw [if_neg hc101] at h
    refine pE_iff (t := 21) rfl rfl hc101 ?_
    refine pE_many 1 (pc1 := 7) (L1 := [some (.ref a0), some (.ref p0)]) (st1 := [.ref a0]) rfl ?_
    cases hq103 : qI Z.2 a0 19 1 with
    | none => rw [hq103] at h; cases h
    | some v102 =>
      rw [hq103, mjBp_some] at h
      refine pE_gI rfl rfl hq103 ?_
      refine pE_many 1 (pc1 := 11) (L1 := [some (.ref a0), some (.ref p0)]) (st1 := [.ref p0, .int v102]) rfl ?_
      have hk104 : mjRo Z.2 p0 19 = true := by
        by_cases q9 : mjRo Z.2 p0 19 = true
        · exact q9
        · rw [if_neg q9] at h; cases h
      rw [if_pos hk104] at h
      cases hq105 : g211_getCoder p0 Z with
      | none => rw [hq105] at h; cases h
      | some v106 =>
        rw [hq105, mjBp_some] at h
        refine pE_callV (k2 := 211) (As := []) (rest := [.int v102]) rfl rfl rfl rfl rfl rfl hk104 (by decide) (by decide) (by decide) (g211_getCoder_ok hq105) ?_
        show pE sg 2 213 14 [some (.ref a0), some (.ref p0)] [.int v106, .int v102] Z _
        by_cases hc108 : mjCmp .eq v102 v106 = true
        · rw [if_pos hc108] at h
          refine pE_cmt (t := 21) rfl rfl hc108 ?_
          simp only [Option.some.injEq, Prod.mk.injEq] at h
          obtain ⟨-, rfl⟩ := h
          exact pE_ret (r := none) rfl ⟨rfl, rfl⟩
        · rw [if_neg hc108] at h
          refine pE_cmf (t := 21) rfl rfl hc108 ?_
          refine pE_many 1 (pc1 := 18) (L1 := [some (.ref a0), some (.ref p0)]) (st1 := [.ref a0]) rfl ?_
          cases h
def g216_length (a0 : Nat) (Z : mjQ) : Option Int32 :=
  mjBp (qI Z.2 a0 19 3) fun v101 =>
  some v101
theorem g216_length_ok {sg : Nat → Nat} {a0 : Nat} {Z : mjQ} {v9 : Int32} (h : g216_length a0 Z = some v9) : pE sg 1 216 0 (mjEnt [.ref a0] (mjML 216)) [] Z (fun r M1 => r = some (.int v9) ∧ M1 = Z) := by
  unfold g216_length at h
  show pE sg 1 216 0 [some (.ref a0)] [] Z _
  refine pE_many 1 (pc1 := 1) (L1 := [some (.ref a0)]) (st1 := [.ref a0]) rfl ?_
  cases hq102 : qI Z.2 a0 19 3 with
  | none => rw [hq102] at h; cases h
  | some v101 =>
    rw [hq102, mjBp_some] at h
    refine pE_gI rfl rfl hq102 ?_
    simp only [Option.some.injEq] at h
    subst h
    exact pE_ret (r := some (.int v101)) rfl ⟨rfl, rfl⟩
def g234_length (a0 : Nat) (Z : mjQ) : Option Int32 :=
  if mjRo Z.2 a0 19 = true then
  mjBp (g216_length a0 Z) fun v103 =>
  some v103
  else none
theorem g234_length_ok {sg : Nat → Nat} {a0 : Nat} {Z : mjQ} {v9 : Int32} (h : g234_length a0 Z = some v9) : pE sg 2 234 0 (mjEnt [.ref a0] (mjML 234)) [] Z (fun r M1 => r = some (.int v9) ∧ M1 = Z) := by
  unfold g234_length at h
  show pE sg 2 234 0 [some (.ref a0)] [] Z _
  refine pE_many 1 (pc1 := 1) (L1 := [some (.ref a0)]) (st1 := [.ref a0]) rfl ?_
  have hk101 : mjRo Z.2 a0 19 = true := by
    by_cases q9 : mjRo Z.2 a0 19 = true
    · exact q9
    · rw [if_neg q9] at h; cases h
  rw [if_pos hk101] at h
  cases hq102 : g216_length a0 Z with
  | none => rw [hq102] at h; cases h
  | some v103 =>
    rw [hq102, mjBp_some] at h
    refine pE_callS (k2 := 216) (As := []) (rest := []) rfl rfl rfl rfl rfl rfl hk101 (by decide) (by decide) (by decide) (g216_length_ok hq102) ?_
    show pE sg 2 234 4 [some (.ref a0)] [.int v103] Z _
    simp only [Option.some.injEq] at h
    subst h
    exact pE_ret (r := some (.int v103)) rfl ⟨rfl, rfl⟩
def g206_append (sg : Nat → Nat) (a0 : Nat) (p0 : Nat) (Z : mjQ) : Option (Nat × mjQ) :=
  if mjRo Z.2 p0 19 = true then
  mjBp (g234_length p0 Z) fun v103 =>
  mjBp (qI Z.2 a0 19 3) fun v105 =>
  if mjRo Z.2 a0 19 = true then
  mjBq (g209_ensureCapacityInternal sg a0 (v105 + v103) Z) fun _ Z110 =>
  if mjRo Z110.2 a0 19 = true then
  mjBq (g213_inflateIfNeededFor sg a0 p0 Z110) fun _ Z114 =>
  mjBp (qR Z114.2 a0 19 0) fun v115 =>
  mjBp (qI Z114.2 a0 19 3) fun v117 =>
  mjBp (qI Z114.2 a0 19 1) fun v119 =>
  if mjRo Z114.2 p0 19 = true then
  mjBq (g210_getBytes sg p0 v115 v117 v119 Z114) fun _ Z124 =>
  mjBp (qI Z124.2 a0 19 3) fun v125 =>
  mjBp (qSi Z124 a0 19 3 (v125 + v103)) fun Z127 =>
  mjBp (qI Z127.2 a0 19 2) fun v129 =>
  mjBp (qI Z127.2 p0 19 2) fun v131 =>
  mjBp (qSi Z127 a0 19 2 (v129 ||| v131)) fun Z133 =>
  some (a0, Z133)
  else none
  else none
  else none
  else none
theorem g206_append_ok {sg : Nat → Nat} {a0 : Nat} {p0 : Nat} {Z : mjQ} {v9 : Nat} {Z9 : mjQ} (h : g206_append sg a0 p0 Z = some (v9, Z9)) : pE sg 5 206 0 (mjEnt [.ref a0, .ref p0] (mjML 206)) [] Z (fun r M1 => r = some (.ref v9) ∧ M1 = Z9) := by
  unfold g206_append at h
  show pE sg 5 206 0 [some (.ref a0), some (.ref p0), none] [] Z _
  refine pE_many 3 (pc1 := 10) (L1 := [some (.ref a0), some (.ref p0), none]) (st1 := [.ref p0]) rfl ?_
  have hk101 : mjRo Z.2 p0 19 = true := by
    by_cases q9 : mjRo Z.2 p0 19 = true
    · exact q9
    · rw [if_neg q9] at h; cases h
  rw [if_pos hk101] at h
  cases hq102 : g234_length p0 Z with
  | none => rw [hq102] at h; cases h
  | some v103 =>
    rw [hq102, mjBp_some] at h
    refine pE_callV (k2 := 234) (As := []) (rest := []) rfl rfl rfl rfl rfl rfl hk101 (by decide) (by decide) (by decide) (g234_length_ok hq102) ?_
    show pE sg 5 206 13 [some (.ref a0), some (.ref p0), none] [.int v103] Z _
    refine pE_many 3 (pc1 := 16) (L1 := [some (.ref a0), some (.ref p0), some (.int v103)]) (st1 := [.ref a0, .ref a0]) rfl ?_
    cases hq106 : qI Z.2 a0 19 3 with
    | none => rw [hq106] at h; cases h
    | some v105 =>
      rw [hq106, mjBp_some] at h
      refine pE_gI rfl rfl hq106 ?_
      refine pE_many 2 (pc1 := 21) (L1 := [some (.ref a0), some (.ref p0), some (.int v103)]) (st1 := [.int (v105 + v103), .ref a0]) rfl ?_
      have hk107 : mjRo Z.2 a0 19 = true := by
        by_cases q9 : mjRo Z.2 a0 19 = true
        · exact q9
        · rw [if_neg q9] at h; cases h
      rw [if_pos hk107] at h
      cases hq108 : g209_ensureCapacityInternal sg a0 (v105 + v103) Z with
      | none => rw [hq108] at h; cases h
      | some w =>
        obtain ⟨v109, Z110⟩ := w
        rw [hq108, mjBq_some] at h
        refine pE_callV (k2 := 209) (As := [.int (v105 + v103)]) (rest := []) rfl rfl rfl rfl rfl rfl hk107 (by decide) (by decide) (by decide) (g209_ensureCapacityInternal_ok hq108) ?_
        show pE sg 5 206 24 [some (.ref a0), some (.ref p0), some (.int v103)] [] Z110 _
        refine pE_many 2 (pc1 := 26) (L1 := [some (.ref a0), some (.ref p0), some (.int v103)]) (st1 := [.ref p0, .ref a0]) rfl ?_
        have hk111 : mjRo Z110.2 a0 19 = true := by
          by_cases q9 : mjRo Z110.2 a0 19 = true
          · exact q9
          · rw [if_neg q9] at h; cases h
        rw [if_pos hk111] at h
        cases hq112 : g213_inflateIfNeededFor sg a0 p0 Z110 with
        | none => rw [hq112] at h; cases h
        | some w =>
          obtain ⟨v113, Z114⟩ := w
          rw [hq112, mjBq_some] at h
          refine pE_callV (k2 := 213) (As := [.ref p0]) (rest := []) rfl rfl rfl rfl rfl rfl hk111 (by decide) (by decide) (by decide) (g213_inflateIfNeededFor_ok hq112) ?_
          show pE sg 5 206 29 [some (.ref a0), some (.ref p0), some (.int v103)] [] Z114 _
          refine pE_many 2 (pc1 := 31) (L1 := [some (.ref a0), some (.ref p0), some (.int v103)]) (st1 := [.ref a0, .ref p0]) rfl ?_
          cases hq116 : qR Z114.2 a0 19 0 with
          | none => rw [hq116] at h; cases h
          | some v115 =>
            rw [hq116, mjBp_some] at h
            refine pE_gR rfl rfl hq116 ?_
            refine pE_many 1 (pc1 := 35) (L1 := [some (.ref a0), some (.ref p0), some (.int v103)]) (st1 := [.ref a0, .ref v115, .ref p0]) rfl ?_
            cases hq118 : qI Z114.2 a0 19 3 with
            | none => rw [hq118] at h; cases h
            | some v117 =>
              rw [hq118, mjBp_some] at h
              refine pE_gI rfl rfl hq118 ?_
              refine pE_many 1 (pc1 := 39) (L1 := [some (.ref a0), some (.ref p0), some (.int v103)]) (st1 := [.ref a0, .int v117, .ref v115, .ref p0]) rfl ?_
              cases hq120 : qI Z114.2 a0 19 1 with
              | none => rw [hq120] at h; cases h
              | some v119 =>
                rw [hq120, mjBp_some] at h
                refine pE_gI rfl rfl hq120 ?_
                have hk121 : mjRo Z114.2 p0 19 = true := by
                  by_cases q9 : mjRo Z114.2 p0 19 = true
                  · exact q9
                  · rw [if_neg q9] at h; cases h
                rw [if_pos hk121] at h
                cases hq122 : g210_getBytes sg p0 v115 v117 v119 Z114 with
                | none => rw [hq122] at h; cases h
                | some w =>
                  obtain ⟨v123, Z124⟩ := w
                  rw [hq122, mjBq_some] at h
                  refine pE_callV (k2 := 210) (As := [.ref v115, .int v117, .int v119]) (rest := []) rfl rfl rfl rfl rfl rfl hk121 (by decide) (by decide) (by decide) (g210_getBytes_ok hq122) ?_
                  show pE sg 5 206 45 [some (.ref a0), some (.ref p0), some (.int v103)] [] Z124 _
                  refine pE_many 2 (pc1 := 47) (L1 := [some (.ref a0), some (.ref p0), some (.int v103)]) (st1 := [.ref a0, .ref a0]) rfl ?_
                  cases hq126 : qI Z124.2 a0 19 3 with
                  | none => rw [hq126] at h; cases h
                  | some v125 =>
                    rw [hq126, mjBp_some] at h
                    refine pE_gI rfl rfl hq126 ?_
                    refine pE_many 2 (pc1 := 52) (L1 := [some (.ref a0), some (.ref p0), some (.int v103)]) (st1 := [.int (v125 + v103), .ref a0]) rfl ?_
                    cases hq128 : qSi Z124 a0 19 3 (v125 + v103) with
                    | none => rw [hq128] at h; cases h
                    | some Z127 =>
                      rw [hq128, mjBp_some] at h
                      refine pE_pI rfl rfl (by decide) (by decide) hq128 ?_
                      refine pE_many 2 (pc1 := 57) (L1 := [some (.ref a0), some (.ref p0), some (.int v103)]) (st1 := [.ref a0, .ref a0]) rfl ?_
                      cases hq130 : qI Z127.2 a0 19 2 with
                      | none => rw [hq130] at h; cases h
                      | some v129 =>
                        rw [hq130, mjBp_some] at h
                        refine pE_gI rfl rfl hq130 ?_
                        refine pE_many 1 (pc1 := 61) (L1 := [some (.ref a0), some (.ref p0), some (.int v103)]) (st1 := [.ref p0, .int v129, .ref a0]) rfl ?_
                        cases hq132 : qI Z127.2 p0 19 2 with
                        | none => rw [hq132] at h; cases h
                        | some v131 =>
                          rw [hq132, mjBp_some] at h
                          refine pE_gI rfl rfl hq132 ?_
                          refine pE_many 1 (pc1 := 65) (L1 := [some (.ref a0), some (.ref p0), some (.int v103)]) (st1 := [.int (v129 ||| v131), .ref a0]) rfl ?_
                          cases hq134 : qSi Z127 a0 19 2 (v129 ||| v131) with
                          | none => rw [hq134] at h; cases h
                          | some Z133 =>
                            rw [hq134, mjBp_some] at h
                            refine pE_pI rfl rfl (by decide) (by decide) hq134 ?_
                            refine pE_many 1 (pc1 := 69) (L1 := [some (.ref a0), some (.ref p0), some (.int v103)]) (st1 := [.ref a0]) rfl ?_
                            simp only [Option.some.injEq, Prod.mk.injEq] at h
                            obtain ⟨rfl, rfl⟩ := h
                            exact pE_ret (r := some (.ref a0)) rfl ⟨rfl, rfl⟩
def g207_append (sg : Nat → Nat) (a0 : Nat) (p0 : Nat) (Z : mjQ) : Option (Nat × mjQ) :=
  if mjKs Z.2 p0 19 = true then
  if mjCmp .eq 0 0 = true then
    if mjCmp .eq 1 0 = true then
      none
    else
      if mjRo Z.2 a0 19 = true then
      mjBq (g206_append sg a0 p0 Z) fun v106 Z107 =>
      some (v106, Z107)
      else none
  else
    none
  else none
theorem g207_append_ok {sg : Nat → Nat} {a0 : Nat} {p0 : Nat} {Z : mjQ} {v9 : Nat} {Z9 : mjQ} (h : g207_append sg a0 p0 Z = some (v9, Z9)) : pE sg 8 207 0 (mjEnt [.ref a0, .ref p0] (mjML 207)) [] Z (fun r M1 => r = some (.ref v9) ∧ M1 = Z9) := by
  unfold g207_append at h
  show pE sg 8 207 0 [some (.ref a0), some (.ref p0)] [] Z _
  refine pE_many 3 (pc1 := 10) (L1 := [some (.ref a0), some (.ref p0)]) (st1 := [.ref p0]) rfl ?_
  have hk101 : mjKs Z.2 p0 19 = true := by
    by_cases q9 : mjKs Z.2 p0 19 = true
    · exact q9
    · rw [if_neg q9] at h; cases h
  rw [if_pos hk101] at h
  refine pE_ins0 rfl rfl hk101 ?_
  by_cases hc102 : mjCmp .eq 0 0 = true
  · rw [if_pos hc102] at h
    refine pE_ift (t := 25) rfl rfl hc102 ?_
    refine pE_many 1 (pc1 := 26) (L1 := [some (.ref a0), some (.ref p0)]) (st1 := [.ref p0]) rfl ?_
    refine pE_ins1 rfl (Or.inr ⟨rfl, hk101⟩) ?_
    by_cases hc103 : mjCmp .eq 1 0 = true
    · rw [if_pos hc103] at h
      refine pE_ift (t := 41) rfl rfl hc103 ?_
      refine pE_many 4 (pc1 := 45) (L1 := [some (.ref a0), some (.ref p0)]) (st1 := [.ref p0, .int 0, .ref p0, .ref a0]) rfl ?_
      cases h
    · rw [if_neg hc103] at h
      refine pE_iff (t := 41) rfl rfl hc103 ?_
      refine pE_many 2 (pc1 := 34) (L1 := [some (.ref a0), some (.ref p0)]) (st1 := [.ref p0, .ref a0]) rfl ?_
      refine pE_cast rfl (Or.inr (Or.inl ⟨rfl, hk101⟩)) ?_
      have hk104 : mjRo Z.2 a0 19 = true := by
        by_cases q9 : mjRo Z.2 a0 19 = true
        · exact q9
        · rw [if_neg q9] at h; cases h
      rw [if_pos hk104] at h
      cases hq105 : g206_append sg a0 p0 Z with
      | none => rw [hq105] at h; cases h
      | some w =>
        obtain ⟨v106, Z107⟩ := w
        rw [hq105, mjBq_some] at h
        refine pE_callV (k2 := 206) (As := [.ref p0]) (rest := []) rfl rfl rfl rfl rfl rfl hk104 (by decide) (by decide) (by decide) (g206_append_ok hq105) ?_
        show pE sg 8 207 40 [some (.ref a0), some (.ref p0)] [.ref v106] Z107 _
        simp only [Option.some.injEq, Prod.mk.injEq] at h
        obtain ⟨rfl, rfl⟩ := h
        exact pE_ret (r := some (.ref v106)) rfl ⟨rfl, rfl⟩
  · rw [if_neg hc102] at h
    refine pE_iff (t := 25) rfl rfl hc102 ?_
    refine pE_many 2 (pc1 := 18) (L1 := [some (.ref a0), some (.ref p0)]) (st1 := [.ref p0, .ref a0]) rfl ?_
    cases h
def g231_append (sg : Nat → Nat) (a0 : Nat) (p0 : Nat) (Z : mjQ) : Option (Nat × mjQ) :=
  if mjRo Z.2 a0 19 = true then
  mjBq (g207_append sg a0 p0 Z) fun v103 Z104 =>
  some (a0, Z104)
  else none
theorem g231_append_ok {sg : Nat → Nat} {a0 : Nat} {p0 : Nat} {Z : mjQ} {v9 : Nat} {Z9 : mjQ} (h : g231_append sg a0 p0 Z = some (v9, Z9)) : pE sg 9 231 0 (mjEnt [.ref a0, .ref p0] (mjML 231)) [] Z (fun r M1 => r = some (.ref v9) ∧ M1 = Z9) := by
  unfold g231_append at h
  show pE sg 9 231 0 [some (.ref a0), some (.ref p0)] [] Z _
  refine pE_many 2 (pc1 := 2) (L1 := [some (.ref a0), some (.ref p0)]) (st1 := [.ref p0, .ref a0]) rfl ?_
  have hk101 : mjRo Z.2 a0 19 = true := by
    by_cases q9 : mjRo Z.2 a0 19 = true
    · exact q9
    · rw [if_neg q9] at h; cases h
  rw [if_pos hk101] at h
  cases hq102 : g207_append sg a0 p0 Z with
  | none => rw [hq102] at h; cases h
  | some w =>
    obtain ⟨v103, Z104⟩ := w
    rw [hq102, mjBq_some] at h
    refine pE_callS (k2 := 207) (As := [.ref p0]) (rest := []) rfl rfl rfl rfl rfl rfl hk101 (by decide) (by decide) (by decide) (g207_append_ok hq102) ?_
    show pE sg 9 231 5 [some (.ref a0), some (.ref p0)] [.ref v103] Z104 _
    refine pE_many 2 (pc1 := 7) (L1 := [some (.ref a0), some (.ref p0)]) (st1 := [.ref a0]) rfl ?_
    simp only [Option.some.injEq, Prod.mk.injEq] at h
    obtain ⟨rfl, rfl⟩ := h
    exact pE_ret (r := some (.ref a0)) rfl ⟨rfl, rfl⟩
def g212_getValue (a0 : Nat) (Z : mjQ) : Option Nat :=
  mjBp (qR Z.2 a0 19 0) fun v101 =>
  some v101
theorem g212_getValue_ok {sg : Nat → Nat} {a0 : Nat} {Z : mjQ} {v9 : Nat} (h : g212_getValue a0 Z = some v9) : pE sg 1 212 0 (mjEnt [.ref a0] (mjML 212)) [] Z (fun r M1 => r = some (.ref v9) ∧ M1 = Z) := by
  unfold g212_getValue at h
  show pE sg 1 212 0 [some (.ref a0)] [] Z _
  refine pE_many 1 (pc1 := 1) (L1 := [some (.ref a0)]) (st1 := [.ref a0]) rfl ?_
  cases hq102 : qR Z.2 a0 19 0 with
  | none => rw [hq102] at h; cases h
  | some v101 =>
    rw [hq102, mjBp_some] at h
    refine pE_gR rfl rfl hq102 ?_
    simp only [Option.some.injEq] at h
    subst h
    exact pE_ret (r := some (.ref v101)) rfl ⟨rfl, rfl⟩
def g250_checkLength (sg : Nat → Nat) (p0 : Int32) (p1 : Int32) (Z : mjQ) : Option (Unit × mjQ) :=
  if mjCmp .ge p1 p0 = true then
    some ((), Z)
  else
    none
theorem g250_checkLength_ok {sg : Nat → Nat} {p0 : Int32} {p1 : Int32} {Z : mjQ} {v9 : Unit} {Z9 : mjQ} (h : g250_checkLength sg p0 p1 Z = some (v9, Z9)) : pE sg 1 250 0 (mjEnt [.int p0, .int p1] (mjML 250)) [] Z (fun r M1 => r = none ∧ M1 = Z9) := by
  unfold g250_checkLength at h
  show pE sg 1 250 0 [some (.int p0), some (.int p1)] [] Z _
  refine pE_many 2 (pc1 := 2) (L1 := [some (.int p0), some (.int p1)]) (st1 := [.int p0, .int p1]) rfl ?_
  by_cases hc101 : mjCmp .ge p1 p0 = true
  · rw [if_pos hc101] at h
    refine pE_cmt (t := 37) rfl rfl hc101 ?_
    simp only [Option.some.injEq, Prod.mk.injEq] at h
    obtain ⟨-, rfl⟩ := h
    exact pE_ret (r := none) rfl ⟨rfl, rfl⟩
  · rw [if_neg hc101] at h
    refine pE_cmf (t := 37) rfl rfl hc101 ?_
    cases h
def g253_copyOfRangeByte (sg : Nat → Nat) (p0 : Nat) (p1 : Int32) (p2 : Int32) (Z : mjQ) : Option (Nat × mjQ) :=
  mjBq (g250_checkLength sg p1 p2 Z) fun _ Z103 =>
  mjBq (qNewA sg Z103 118 (p2 - p1)) fun v104 Z106 =>
  mjBp (qLn Z106.2 p0) fun v107 =>
  mjBp (qCp 253 [.ref p0, .int p1, .ref v104, .int 0, .int (mjMin (v107 - p1) (p2 - p1))] Z106) fun Z110 =>
  some (v104, Z110)
theorem g253_copyOfRangeByte_ok {sg : Nat → Nat} {p0 : Nat} {p1 : Int32} {p2 : Int32} {Z : mjQ} {v9 : Nat} {Z9 : mjQ} (h : g253_copyOfRangeByte sg p0 p1 p2 Z = some (v9, Z9)) : pE sg 2 253 0 (mjEnt [.ref p0, .int p1, .int p2] (mjML 253)) [] Z (fun r M1 => r = some (.ref v9) ∧ M1 = Z9) := by
  unfold g253_copyOfRangeByte at h
  show pE sg 2 253 0 [some (.ref p0), some (.int p1), some (.int p2), none, none] [] Z _
  refine pE_many 2 (pc1 := 2) (L1 := [some (.ref p0), some (.int p1), some (.int p2), none, none]) (st1 := [.int p2, .int p1]) rfl ?_
  cases hq101 : g250_checkLength sg p1 p2 Z with
  | none => rw [hq101] at h; cases h
  | some w =>
    obtain ⟨v102, Z103⟩ := w
    rw [hq101, mjBq_some] at h
    refine pE_call (k2 := 250) (As := [.int p1, .int p2]) (rest := []) (w := 3) rfl (by decide) (by decide) (g250_checkLength_ok hq101) ?_
    show pE sg 2 253 5 [some (.ref p0), some (.int p1), some (.int p2), none, none] [] Z103 _
    refine pE_many 5 (pc1 := 10) (L1 := [some (.ref p0), some (.int p1), some (.int p2), some (.int (p2 - p1)), none]) (st1 := [.int (p2 - p1)]) rfl ?_
    cases hq105 : qNewA sg Z103 118 (p2 - p1) with
    | none => rw [hq105] at h; cases h
    | some w =>
      obtain ⟨v104, Z106⟩ := w
      rw [hq105, mjBq_some] at h
      refine pE_newA rfl rfl rfl rfl rfl (by decide) hq105 ?_
      refine pE_many 6 (pc1 := 20) (L1 := [some (.ref p0), some (.int p1), some (.int p2), some (.int (p2 - p1)), some (.ref v104)]) (st1 := [.ref p0, .int 0, .ref v104, .int p1, .ref p0]) rfl ?_
      cases hq108 : qLn Z106.2 p0 with
      | none => rw [hq108] at h; cases h
      | some v107 =>
        rw [hq108, mjBp_some] at h
        refine pE_len rfl hq108 ?_
        refine pE_many 3 (pc1 := 24) (L1 := [some (.ref p0), some (.int p1), some (.int p2), some (.int (p2 - p1)), some (.ref v104)]) (st1 := [.int (p2 - p1), .int (v107 - p1), .int 0, .ref v104, .int p1, .ref p0]) rfl ?_
        refine pE_prim (v := .int (mjMin (v107 - p1) (p2 - p1))) (w := 3) rfl (by decide) (by decide) rfl ?_
        cases hq109 : qCp 253 [.ref p0, .int p1, .ref v104, .int 0, .int (mjMin (v107 - p1) (p2 - p1))] Z106 with
        | none => rw [hq109] at h; cases h
        | some Z110 =>
          rw [hq109, mjBp_some] at h
          refine pE_acp (As := [.ref p0, .int p1, .ref v104, .int 0, .int (mjMin (v107 - p1) (p2 - p1))]) (rest := []) (w := 3) rfl (by decide) hq109 ?_
          refine pE_many 1 (pc1 := 32) (L1 := [some (.ref p0), some (.int p1), some (.int p2), some (.int (p2 - p1)), some (.ref v104)]) (st1 := [.ref v104]) rfl ?_
          simp only [Option.some.injEq, Prod.mk.injEq] at h
          obtain ⟨rfl, rfl⟩ := h
          exact pE_ret (r := some (.ref v104)) rfl ⟨rfl, rfl⟩
def g252_copyOfRange (sg : Nat → Nat) (p0 : Nat) (p1 : Int32) (p2 : Int32) (Z : mjQ) : Option (Nat × mjQ) :=
  if mjCmp .ne p1 0 = true then
    mjBq (g253_copyOfRangeByte sg p0 p1 p2 Z) fun v103 Z104 =>
    some (v103, Z104)
  else
    mjBp (qLn Z.2 p0) fun v105 =>
    if mjCmp .eq p2 v105 = true then
      mjBq (qCln sg 252 p0 Z) fun v109 Z110 =>
      if mjKs Z110.2 v109 118 = true then
      some (v109, Z110)
      else none
    else
      mjBq (g253_copyOfRangeByte sg p0 p1 p2 Z) fun v113 Z114 =>
      some (v113, Z114)
theorem g252_copyOfRange_ok {sg : Nat → Nat} {p0 : Nat} {p1 : Int32} {p2 : Int32} {Z : mjQ} {v9 : Nat} {Z9 : mjQ} (h : g252_copyOfRange sg p0 p1 p2 Z = some (v9, Z9)) : pE sg 3 252 0 (mjEnt [.ref p0, .int p1, .int p2] (mjML 252)) [] Z (fun r M1 => r = some (.ref v9) ∧ M1 = Z9) := by
  unfold g252_copyOfRange at h
  show pE sg 3 252 0 [some (.ref p0), some (.int p1), some (.int p2)] [] Z _
  refine pE_many 1 (pc1 := 1) (L1 := [some (.ref p0), some (.int p1), some (.int p2)]) (st1 := [.int p1]) rfl ?_
  by_cases hc101 : mjCmp .ne p1 0 = true
  · rw [if_pos hc101] at h
    refine pE_ift (t := 10) rfl rfl hc101 ?_
    refine pE_many 3 (pc1 := 13) (L1 := [some (.ref p0), some (.int p1), some (.int p2)]) (st1 := [.int p2, .int p1, .ref p0]) rfl ?_
    cases hq102 : g253_copyOfRangeByte sg p0 p1 p2 Z with
    | none => rw [hq102] at h; cases h
    | some w =>
      obtain ⟨v103, Z104⟩ := w
      rw [hq102, mjBq_some] at h
      refine pE_call (k2 := 253) (As := [.ref p0, .int p1, .int p2]) (rest := []) (w := 3) rfl (by decide) (by decide) (g253_copyOfRangeByte_ok hq102) ?_
      show pE sg 3 252 16 [some (.ref p0), some (.int p1), some (.int p2)] [.ref v103] Z104 _
      simp only [Option.some.injEq, Prod.mk.injEq] at h
      obtain ⟨rfl, rfl⟩ := h
      exact pE_ret (r := some (.ref v103)) rfl ⟨rfl, rfl⟩
  · rw [if_neg hc101] at h
    refine pE_iff (t := 10) rfl rfl hc101 ?_
    refine pE_many 2 (pc1 := 6) (L1 := [some (.ref p0), some (.int p1), some (.int p2)]) (st1 := [.ref p0, .int p2]) rfl ?_
    cases hq106 : qLn Z.2 p0 with
    | none => rw [hq106] at h; cases h
    | some v105 =>
      rw [hq106, mjBp_some] at h
      refine pE_len rfl hq106 ?_
      by_cases hc107 : mjCmp .eq p2 v105 = true
      · rw [if_pos hc107] at h
        refine pE_cmt (t := 17) rfl rfl hc107 ?_
        refine pE_many 1 (pc1 := 18) (L1 := [some (.ref p0), some (.int p1), some (.int p2)]) (st1 := [.ref p0]) rfl ?_
        cases hq108 : qCln sg 252 p0 Z with
        | none => rw [hq108] at h; cases h
        | some w =>
          obtain ⟨v109, Z110⟩ := w
          rw [hq108, mjBq_some] at h
          refine pE_cln (rest := []) (w := 3) rfl (by decide) hq108 ?_
          have hk111 : mjKs Z110.2 v109 118 = true := by
            by_cases q9 : mjKs Z110.2 v109 118 = true
            · exact q9
            · rw [if_neg q9] at h; cases h
          rw [if_pos hk111] at h
          refine pE_cast rfl (Or.inr (Or.inr (Or.inr ⟨rfl, hk111⟩))) ?_
          simp only [Option.some.injEq, Prod.mk.injEq] at h
          obtain ⟨rfl, rfl⟩ := h
          exact pE_ret (r := some (.ref v109)) rfl ⟨rfl, rfl⟩
      · rw [if_neg hc107] at h
        refine pE_cmf (t := 17) rfl rfl hc107 ?_
        refine pE_many 3 (pc1 := 13) (L1 := [some (.ref p0), some (.int p1), some (.int p2)]) (st1 := [.int p2, .int p1, .ref p0]) rfl ?_
        cases hq112 : g253_copyOfRangeByte sg p0 p1 p2 Z with
        | none => rw [hq112] at h; cases h
        | some w =>
          obtain ⟨v113, Z114⟩ := w
          rw [hq112, mjBq_some] at h
          refine pE_call (k2 := 253) (As := [.ref p0, .int p1, .int p2]) (rest := []) (w := 3) rfl (by decide) (by decide) (g253_copyOfRangeByte_ok hq112) ?_
          show pE sg 3 252 16 [some (.ref p0), some (.int p1), some (.int p2)] [.ref v113] Z114 _
          simp only [Option.some.injEq, Prod.mk.injEq] at h
          obtain ⟨rfl, rfl⟩ := h
          exact pE_ret (r := some (.ref v113)) rfl ⟨rfl, rfl⟩
def g224_init_j79 (sg : Nat → Nat) (x0 : Nat) (x3 : Nat) (x4 : Int32) (Z : mjQ) : Option (Unit × mjQ) :=
  mjBp (qSi Z x0 18 1 1) fun Z113 =>
  mjBq (g252_copyOfRange sg x3 0 ((x4 : Int32) <<< ((1 : Int32) &&& 31)) Z113) fun v116 Z117 =>
  mjBp (qSr Z117 x0 18 0 (some v116)) fun Z118 =>
  some ((), Z118)
theorem g224_init_j79_ok {sg : Nat → Nat} (x0 : Nat) (x3 : Nat) (x4 : Int32) (d1 d2 : Option Value) (Z : mjQ) (v9 : Unit) (Z9 : mjQ) (h : g224_init_j79 sg x0 x3 x4 Z = some (v9, Z9)) : pE sg 4 224 79 [some (.ref x0), d1, d2, some (.ref x3), some (.int x4)] [] Z (fun r M1 => r = none ∧ M1 = Z9) := by
  unfold g224_init_j79 at h
  refine pE_many 2 (pc1 := 81) (L1 := [some (.ref x0), d1, d2, some (.ref x3), some (.int x4)]) (st1 := [.int 1, .ref x0]) rfl ?_
  cases hq114 : qSi Z x0 18 1 1 with
  | none => rw [hq114] at h; cases h
  | some Z113 =>
    rw [hq114, mjBp_some] at h
    refine pE_pI rfl rfl (by decide) (by decide) hq114 ?_
    refine pE_many 6 (pc1 := 91) (L1 := [some (.ref x0), d1, d2, some (.ref x3), some (.int x4)]) (st1 := [.int ((x4 : Int32) <<< ((1 : Int32) &&& 31)), .int 0, .ref x3, .ref x0]) rfl ?_
    cases hq115 : g252_copyOfRange sg x3 0 ((x4 : Int32) <<< ((1 : Int32) &&& 31)) Z113 with
    | none => rw [hq115] at h; cases h
    | some w =>
      obtain ⟨v116, Z117⟩ := w
      rw [hq115, mjBq_some] at h
      refine pE_call (k2 := 252) (As := [.ref x3, .int 0, .int ((x4 : Int32) <<< ((1 : Int32) &&& 31))]) (rest := [.ref x0]) (w := 3) rfl (by decide) (by decide) (g252_copyOfRange_ok hq115) ?_
      show pE sg 4 224 94 [some (.ref x0), d1, d2, some (.ref x3), some (.int x4)] [.ref v116, .ref x0] Z117 _
      cases hq119 : qSr Z117 x0 18 0 (some v116) with
      | none => rw [hq119] at h; cases h
      | some Z118 =>
        rw [hq119, mjBp_some] at h
        refine pE_pR (o := some v116) rfl rfl (by decide) (by decide) hq119 ?_
        simp only [Option.some.injEq, Prod.mk.injEq] at h
        obtain ⟨-, rfl⟩ := h
        exact pE_ret (r := none) rfl ⟨rfl, rfl⟩
def g224_init (sg : Nat → Nat) (a0 : Nat) (p0 : Nat) (p1 : Option Nat) (Z : mjQ) : Option (Unit × mjQ) :=
  if mjRo Z.2 p0 19 = true then
  mjBp (g212_getValue p0 Z) fun v103 =>
  mjBp (g234_length p0 Z) fun v106 =>
  mjBp (g215_isLatin1 p0 Z) fun v109 =>
  if mjCmp .eq v109 0 = true then
    if mjCmp .eq 1 0 = true then
      g224_init_j79 sg a0 v103 v106 Z
    else
      mjBp (qI Z.2 p0 19 2) fun v120 =>
      if mjCmp .eq v120 0 = true then
        g224_init_j79 sg a0 v103 v106 Z
      else
        none
  else
    mjBp (qSi Z a0 18 1 0) fun Z123 =>
    mjBq (g252_copyOfRange sg v103 0 v106 Z123) fun v126 Z127 =>
    mjBp (qSr Z127 a0 18 0 (some v126)) fun Z128 =>
    some ((), Z128)
  else none
theorem g224_init_ok {sg : Nat → Nat} {a0 : Nat} {p0 : Nat} {p1 : Option Nat} {Z : mjQ} {v9 : Unit} {Z9 : mjQ} (h : g224_init sg a0 p0 p1 Z = some (v9, Z9)) : pE sg 4 224 0 (mjEnt [.ref a0, .ref p0, va_rf p1] (mjML 224)) [] Z (fun r M1 => r = none ∧ M1 = Z9) := by
  unfold g224_init at h
  rw [show mjEnt [.ref a0, .ref p0, va_rf p1] (mjML 224) = [some (.ref a0), some (.ref p0), some (va_rf p1), none, none] from by cases p1 <;> rfl]
  show pE sg 4 224 0 [some (.ref a0), some (.ref p0), some (va_rf p1), none, none] [] Z _
  refine pE_many 1 (pc1 := 1) (L1 := [some (.ref a0), some (.ref p0), some (va_rf p1), none, none]) (st1 := [.ref a0]) rfl ?_
  refine pE_obj (As := [.ref a0]) (rest := []) (w := 3) rfl (by first | decide | omega) ?_
  refine pE_many 1 (pc1 := 5) (L1 := [some (.ref a0), some (.ref p0), some (va_rf p1), none, none]) (st1 := [.ref p0]) rfl ?_
  have hk101 : mjRo Z.2 p0 19 = true := by
    by_cases q9 : mjRo Z.2 p0 19 = true
    · exact q9
    · rw [if_neg q9] at h; cases h
  rw [if_pos hk101] at h
  cases hq102 : g212_getValue p0 Z with
  | none => rw [hq102] at h; cases h
  | some v103 =>
    rw [hq102, mjBp_some] at h
    refine pE_callV (k2 := 212) (As := []) (rest := []) rfl rfl rfl rfl rfl rfl hk101 (by decide) (by decide) (by decide) (g212_getValue_ok hq102) ?_
    show pE sg 4 224 8 [some (.ref a0), some (.ref p0), some (va_rf p1), none, none] [.ref v103] Z _
    refine pE_many 2 (pc1 := 10) (L1 := [some (.ref a0), some (.ref p0), (mjK1 (some (va_rf p1))), some (.ref v103), none]) (st1 := [.ref p0]) rfl ?_
    cases hq105 : g234_length p0 Z with
    | none => rw [hq105] at h; cases h
    | some v106 =>
      rw [hq105, mjBp_some] at h
      refine pE_callV (k2 := 234) (As := []) (rest := []) rfl rfl rfl rfl rfl rfl hk101 (by decide) (by decide) (by decide) (g234_length_ok hq105) ?_
      show pE sg 4 224 13 [some (.ref a0), some (.ref p0), (mjK1 (some (va_rf p1))), some (.ref v103), none] [.int v106] Z _
      refine pE_many 2 (pc1 := 16) (L1 := [some (.ref a0), some (.ref p0), (mjK1 (some (va_rf p1))), some (.ref v103), some (.int v106)]) (st1 := [.ref p0]) rfl ?_
      cases hq108 : g215_isLatin1 p0 Z with
      | none => rw [hq108] at h; cases h
      | some v109 =>
        rw [hq108, mjBp_some] at h
        refine pE_callV (k2 := 215) (As := []) (rest := []) rfl rfl rfl rfl rfl rfl hk101 (by decide) (by decide) (by decide) (g215_isLatin1_ok hq108) ?_
        show pE sg 4 224 19 [some (.ref a0), some (.ref p0), (mjK1 (some (va_rf p1))), some (.ref v103), some (.int v106)] [.int v109] Z _
        by_cases hc111 : mjCmp .eq v109 0 = true
        · rw [if_pos hc111] at h
          refine pE_ift (t := 41) rfl rfl hc111 ?_
          refine pE_many 1 (pc1 := 44) (L1 := [some (.ref a0), some (.ref p0), (mjK1 (some (va_rf p1))), some (.ref v103), some (.int v106)]) (st1 := [.int 1]) rfl ?_
          by_cases hc112 : mjCmp .eq 1 0 = true
          · rw [if_pos hc112] at h
            refine pE_ift (t := 79) rfl rfl hc112 ?_
            exact g224_init_j79_ok a0 v103 v106 (some (.ref p0)) ((mjK1 (some (va_rf p1)))) Z v9 Z9 h
          · rw [if_neg hc112] at h
            refine pE_iff (t := 79) rfl rfl hc112 ?_
            refine pE_many 1 (pc1 := 48) (L1 := [some (.ref a0), some (.ref p0), (mjK1 (some (va_rf p1))), some (.ref v103), some (.int v106)]) (st1 := [.ref p0]) rfl ?_
            cases hq121 : qI Z.2 p0 19 2 with
            | none => rw [hq121] at h; cases h
            | some v120 =>
              rw [hq121, mjBp_some] at h
              refine pE_gI rfl rfl hq121 ?_
              by_cases hc122 : mjCmp .eq v120 0 = true
              · rw [if_pos hc122] at h
                refine pE_ift (t := 79) rfl rfl hc122 ?_
                exact g224_init_j79_ok a0 v103 v106 (some (.ref p0)) ((mjK1 (some (va_rf p1)))) Z v9 Z9 h
              · rw [if_neg hc122] at h
                refine pE_iff (t := 79) rfl rfl hc122 ?_
                refine pE_many 4 (pc1 := 59) (L1 := [some (.ref a0), some (.ref p0), (mjK1 (some (va_rf p1))), some (.ref v103), some (.int v106)]) (st1 := [.int v106, .int 0, .ref v103, .ref a0]) rfl ?_
                cases h
        · rw [if_neg hc111] at h
          refine pE_iff (t := 41) rfl rfl hc111 ?_
          refine pE_many 2 (pc1 := 24) (L1 := [some (.ref a0), some (.ref p0), (mjK1 (some (va_rf p1))), some (.ref v103), some (.int v106)]) (st1 := [.int 0, .ref a0]) rfl ?_
          cases hq124 : qSi Z a0 18 1 0 with
          | none => rw [hq124] at h; cases h
          | some Z123 =>
            rw [hq124, mjBp_some] at h
            refine pE_pI rfl rfl (by decide) (by decide) hq124 ?_
            refine pE_many 4 (pc1 := 32) (L1 := [some (.ref a0), some (.ref p0), (mjK1 (some (va_rf p1))), some (.ref v103), some (.int v106)]) (st1 := [.int v106, .int 0, .ref v103, .ref a0]) rfl ?_
            cases hq125 : g252_copyOfRange sg v103 0 v106 Z123 with
            | none => rw [hq125] at h; cases h
            | some w =>
              obtain ⟨v126, Z127⟩ := w
              rw [hq125, mjBq_some] at h
              refine pE_call (k2 := 252) (As := [.ref v103, .int 0, .int v106]) (rest := [.ref a0]) (w := 3) rfl (by decide) (by decide) (g252_copyOfRange_ok hq125) ?_
              show pE sg 4 224 35 [some (.ref a0), some (.ref p0), (mjK1 (some (va_rf p1))), some (.ref v103), some (.int v106)] [.ref v126, .ref a0] Z127 _
              cases hq129 : qSr Z127 a0 18 0 (some v126) with
              | none => rw [hq129] at h; cases h
              | some Z128 =>
                rw [hq129, mjBp_some] at h
                refine pE_pR (o := some v126) rfl rfl (by decide) (by decide) hq129 ?_
                refine pE_many 1 (pc1 := 97) (L1 := [some (.ref a0), some (.ref p0), (mjK1 (some (va_rf p1))), some (.ref v103), some (.int v106)]) (st1 := []) rfl ?_
                simp only [Option.some.injEq, Prod.mk.injEq] at h
                obtain ⟨-, rfl⟩ := h
                exact pE_ret (r := none) rfl ⟨rfl, rfl⟩
def g225_init (sg : Nat → Nat) (a0 : Nat) (p0 : Nat) (Z : mjQ) : Option (Unit × mjQ) :=
  mjBq (g224_init sg a0 p0 none Z) fun _ Z103 =>
  some ((), Z103)
theorem g225_init_ok {sg : Nat → Nat} {a0 : Nat} {p0 : Nat} {Z : mjQ} {v9 : Unit} {Z9 : mjQ} (h : g225_init sg a0 p0 Z = some (v9, Z9)) : pE sg 5 225 0 (mjEnt [.ref a0, .ref p0] (mjML 225)) [] Z (fun r M1 => r = none ∧ M1 = Z9) := by
  unfold g225_init at h
  show pE sg 5 225 0 [some (.ref a0), some (.ref p0)] [] Z _
  refine pE_many 3 (pc1 := 3) (L1 := [some (.ref a0), some (.ref p0)]) (st1 := [.null, .ref p0, .ref a0]) rfl ?_
  cases hq101 : g224_init sg a0 p0 none Z with
  | none => rw [hq101] at h; cases h
  | some w =>
    obtain ⟨v102, Z103⟩ := w
    rw [hq101, mjBq_some] at h
    refine pE_call (k2 := 224) (As := [.ref a0, .ref p0, .null]) (rest := []) (w := 3) rfl (by decide) (by decide) (g224_init_ok hq101) ?_
    show pE sg 5 225 6 [some (.ref a0), some (.ref p0)] [] Z103 _
    simp only [Option.some.injEq, Prod.mk.injEq] at h
    obtain ⟨-, rfl⟩ := h
    exact pE_ret (r := none) rfl ⟨rfl, rfl⟩
def g235_toString (sg : Nat → Nat) (a0 : Nat) (Z : mjQ) : Option (Nat × mjQ) :=
  mjBq (qNew sg Z (18, 0)) fun v101 Z103 =>
  mjBq (g225_init sg v101 a0 Z103) fun _ Z106 =>
  some (v101, Z106)
theorem g235_toString_ok {sg : Nat → Nat} {a0 : Nat} {Z : mjQ} {v9 : Nat} {Z9 : mjQ} (h : g235_toString sg a0 Z = some (v9, Z9)) : pE sg 6 235 0 (mjEnt [.ref a0] (mjML 235)) [] Z (fun r M1 => r = some (.ref v9) ∧ M1 = Z9) := by
  unfold g235_toString at h
  show pE sg 6 235 0 [some (.ref a0)] [] Z _
  cases hq102 : qNew sg Z (18, 0) with
  | none => rw [hq102] at h; cases h
  | some w =>
    obtain ⟨v101, Z103⟩ := w
    rw [hq102, mjBq_some] at h
    refine pE_newO rfl rfl (by decide) hq102 ?_
    refine pE_many 2 (pc1 := 5) (L1 := [some (.ref a0)]) (st1 := [.ref a0, .ref v101, .ref v101]) rfl ?_
    cases hq104 : g225_init sg v101 a0 Z103 with
    | none => rw [hq104] at h; cases h
    | some w =>
      obtain ⟨v105, Z106⟩ := w
      rw [hq104, mjBq_some] at h
      refine pE_call (k2 := 225) (As := [.ref v101, .ref a0]) (rest := [.ref v101]) (w := 3) rfl (by decide) (by decide) (g225_init_ok hq104) ?_
      show pE sg 6 235 8 [some (.ref a0)] [.ref v101] Z106 _
      simp only [Option.some.injEq, Prod.mk.injEq] at h
      obtain ⟨rfl, rfl⟩ := h
      exact pE_ret (r := some (.ref v101)) rfl ⟨rfl, rfl⟩
def g237_init (sg : Nat → Nat) (a0 : Nat) (Z : mjQ) : Option (Unit × mjQ) :=
  some ((), Z)
theorem g237_init_ok {sg : Nat → Nat} {a0 : Nat} {Z : mjQ} {v9 : Unit} {Z9 : mjQ} (h : g237_init sg a0 Z = some (v9, Z9)) : pE sg 2 237 0 (mjEnt [.ref a0] (mjML 237)) [] Z (fun r M1 => r = none ∧ M1 = Z9) := by
  unfold g237_init at h
  show pE sg 2 237 0 [some (.ref a0)] [] Z _
  refine pE_many 1 (pc1 := 1) (L1 := [some (.ref a0)]) (st1 := [.ref a0]) rfl ?_
  refine pE_obj (As := [.ref a0]) (rest := []) (w := 3) rfl (by first | decide | omega) ?_
  simp only [Option.some.injEq, Prod.mk.injEq] at h
  obtain ⟨-, rfl⟩ := h
  exact pE_ret (r := none) rfl ⟨rfl, rfl⟩
def g238_init (sg : Nat → Nat) (a0 : Nat) (Z : mjQ) : Option (Unit × mjQ) :=
  mjBq (g237_init sg a0 Z) fun _ Z103 =>
  mjBp (qSi Z103 a0 20 0 0) fun Z104 =>
  some ((), Z104)
theorem g238_init_ok {sg : Nat → Nat} {a0 : Nat} {Z : mjQ} {v9 : Unit} {Z9 : mjQ} (h : g238_init sg a0 Z = some (v9, Z9)) : pE sg 3 238 0 (mjEnt [.ref a0] (mjML 238)) [] Z (fun r M1 => r = none ∧ M1 = Z9) := by
  unfold g238_init at h
  show pE sg 3 238 0 [some (.ref a0)] [] Z _
  refine pE_many 1 (pc1 := 1) (L1 := [some (.ref a0)]) (st1 := [.ref a0]) rfl ?_
  cases hq101 : g237_init sg a0 Z with
  | none => rw [hq101] at h; cases h
  | some w =>
    obtain ⟨v102, Z103⟩ := w
    rw [hq101, mjBq_some] at h
    refine pE_call (k2 := 237) (As := [.ref a0]) (rest := []) (w := 3) rfl (by decide) (by decide) (g237_init_ok hq101) ?_
    show pE sg 3 238 4 [some (.ref a0)] [] Z103 _
    refine pE_many 2 (pc1 := 6) (L1 := [some (.ref a0)]) (st1 := [.int 0, .ref a0]) rfl ?_
    cases hq105 : qSi Z103 a0 20 0 0 with
    | none => rw [hq105] at h; cases h
    | some Z104 =>
      rw [hq105, mjBp_some] at h
      refine pE_pI rfl rfl (by decide) (by decide) hq105 ?_
      simp only [Option.some.injEq, Prod.mk.injEq] at h
      obtain ⟨-, rfl⟩ := h
      exact pE_ret (r := none) rfl ⟨rfl, rfl⟩
def g239_init (sg : Nat → Nat) (a0 : Nat) (Z : mjQ) : Option (Unit × mjQ) :=
  mjBq (g238_init sg a0 Z) fun _ Z103 =>
  mjBp (qSr Z103 a0 20 1 (some 1300003)) fun Z104 =>
  some ((), Z104)
theorem g239_init_ok {sg : Nat → Nat} {a0 : Nat} {Z : mjQ} {v9 : Unit} {Z9 : mjQ} (h : g239_init sg a0 Z = some (v9, Z9)) : pE sg 4 239 0 (mjEnt [.ref a0] (mjML 239)) [] Z (fun r M1 => r = none ∧ M1 = Z9) := by
  unfold g239_init at h
  show pE sg 4 239 0 [some (.ref a0)] [] Z _
  refine pE_many 1 (pc1 := 1) (L1 := [some (.ref a0)]) (st1 := [.ref a0]) rfl ?_
  cases hq101 : g238_init sg a0 Z with
  | none => rw [hq101] at h; cases h
  | some w =>
    obtain ⟨v102, Z103⟩ := w
    rw [hq101, mjBq_some] at h
    refine pE_call (k2 := 238) (As := [.ref a0]) (rest := []) (w := 3) rfl (by decide) (by decide) (g238_init_ok hq101) ?_
    show pE sg 4 239 4 [some (.ref a0)] [] Z103 _
    refine pE_many 2 (pc1 := 8) (L1 := [some (.ref a0)]) (st1 := [.ref 1300003, .ref a0]) rfl ?_
    cases hq105 : qSr Z103 a0 20 1 (some 1300003) with
    | none => rw [hq105] at h; cases h
    | some Z104 =>
      rw [hq105, mjBp_some] at h
      refine pE_pR (o := some 1300003) rfl rfl (by decide) (by decide) hq105 ?_
      simp only [Option.some.injEq, Prod.mk.injEq] at h
      obtain ⟨-, rfl⟩ := h
      exact pE_ret (r := none) rfl ⟨rfl, rfl⟩
def g246_grow (sg : Nat → Nat) (a0 : Nat) (p0 : Int32) (Z : mjQ) : Option (Nat × mjQ) :=
  mjBp (qR Z.2 a0 20 1) fun v101 =>
  mjBp (qLn Z.2 v101) fun v103 =>
  if mjCmp .gt v103 0 = true then
    mjBp (g255_newLength v103 (p0 - v103) ((v103 : Int32) >>> ((1 : Int32) &&& 31)) Z) fun v107 =>
    none
  else
    if v101 = 1300003 then
    mjBq (qNewA sg Z 119 (mjMax 10 p0)) fun v114 Z116 =>
    mjBp (qSr Z116 a0 20 1 (some v114)) fun Z117 =>
    some (v114, Z117)
    else none
theorem g246_grow_ok {sg : Nat → Nat} {a0 : Nat} {p0 : Int32} {Z : mjQ} {v9 : Nat} {Z9 : mjQ} (h : g246_grow sg a0 p0 Z = some (v9, Z9)) : pE sg 3 246 0 (mjEnt [.ref a0, .int p0] (mjML 246)) [] Z (fun r M1 => r = some (.ref v9) ∧ M1 = Z9) := by
  unfold g246_grow at h
  show pE sg 3 246 0 [some (.ref a0), some (.int p0), none, none] [] Z _
  refine pE_many 1 (pc1 := 1) (L1 := [some (.ref a0), some (.int p0), none, none]) (st1 := [.ref a0]) rfl ?_
  cases hq102 : qR Z.2 a0 20 1 with
  | none => rw [hq102] at h; cases h
  | some v101 =>
    rw [hq102, mjBp_some] at h
    refine pE_gR rfl rfl hq102 ?_
    cases hq104 : qLn Z.2 v101 with
    | none => rw [hq104] at h; cases h
    | some v103 =>
      rw [hq104, mjBp_some] at h
      refine pE_len rfl hq104 ?_
      refine pE_many 2 (pc1 := 7) (L1 := [some (.ref a0), some (.int p0), some (.int v103), none]) (st1 := [.int v103]) rfl ?_
      by_cases hc105 : mjCmp .gt v103 0 = true
      · rw [if_pos hc105] at h
        refine pE_ift (t := 20) rfl rfl hc105 ?_
        refine pE_many 7 (pc1 := 27) (L1 := [some (.ref a0), some (.int p0), some (.int v103), none]) (st1 := [.int ((v103 : Int32) >>> ((1 : Int32) &&& 31)), .int (p0 - v103), .int v103]) rfl ?_
        cases hq106 : g255_newLength v103 (p0 - v103) ((v103 : Int32) >>> ((1 : Int32) &&& 31)) Z with
        | none => rw [hq106] at h; cases h
        | some v107 =>
          rw [hq106, mjBp_some] at h
          refine pE_call (k2 := 255) (As := [.int v103, .int (p0 - v103), .int ((v103 : Int32) >>> ((1 : Int32) &&& 31))]) (rest := []) (w := 3) rfl (by decide) (by decide) (g255_newLength_ok hq106) ?_
          show pE sg 3 246 30 [some (.ref a0), some (.int p0), some (.int v103), none] [.int v107] Z _
          refine pE_many 3 (pc1 := 33) (L1 := [some (.ref a0), some (.int p0), some (.int v103), some (.int v107)]) (st1 := [.ref a0, .ref a0]) rfl ?_
          refine pE_gR rfl rfl hq102 ?_
          refine pE_many 1 (pc1 := 37) (L1 := [some (.ref a0), some (.int p0), some (.int v103), some (.int v107)]) (st1 := [.int v107, .ref v101, .ref a0]) rfl ?_
          cases h
      · rw [if_neg hc105] at h
        refine pE_iff (t := 20) rfl rfl hc105 ?_
        refine pE_many 1 (pc1 := 11) (L1 := [some (.ref a0), some (.int p0), some (.int v103), none]) (st1 := [.ref a0]) rfl ?_
        refine pE_gR rfl rfl hq102 ?_
        refine pE_many 1 (pc1 := 17) (L1 := [some (.ref a0), some (.int p0), some (.int v103), none]) (st1 := [.ref 1300003, .ref v101]) rfl ?_
        have hk113 : v101 = 1300003 := by
          by_cases q9 : v101 = 1300003
          · exact q9
          · rw [if_neg q9] at h; cases h
        rw [if_pos hk113] at h
        refine pE_acm2 (t := 45) rfl rfl hk113 ?_
        refine pE_many 3 (pc1 := 49) (L1 := [some (.ref a0), some (.int p0), some (.int v103), none]) (st1 := [.int p0, .int 10, .ref a0]) rfl ?_
        refine pE_prim (v := .int (mjMax 10 p0)) (w := 3) rfl (by decide) (by decide) rfl ?_
        cases hq115 : qNewA sg Z 119 (mjMax 10 p0) with
        | none => rw [hq115] at h; cases h
        | some w =>
          obtain ⟨v114, Z116⟩ := w
          rw [hq115, mjBq_some] at h
          refine pE_newA rfl rfl rfl rfl rfl (by decide) hq115 ?_
          refine pE_many 1 (pc1 := 56) (L1 := [some (.ref a0), some (.int p0), some (.int v103), none]) (st1 := [.ref v114, .ref a0, .ref v114]) rfl ?_
          cases hq118 : qSr Z116 a0 20 1 (some v114) with
          | none => rw [hq118] at h; cases h
          | some Z117 =>
            rw [hq118, mjBp_some] at h
            refine pE_pR (o := some v114) rfl rfl (by decide) (by decide) hq118 ?_
            simp only [Option.some.injEq, Prod.mk.injEq] at h
            obtain ⟨rfl, rfl⟩ := h
            exact pE_ret (r := some (.ref v114)) rfl ⟨rfl, rfl⟩
def g245_grow (sg : Nat → Nat) (a0 : Nat) (Z : mjQ) : Option (Nat × mjQ) :=
  mjBp (qI Z.2 a0 20 2) fun v101 =>
  if mjRo Z.2 a0 20 = true then
  mjBq (g246_grow sg a0 (v101 + 1) Z) fun v105 Z106 =>
  some (v105, Z106)
  else none
theorem g245_grow_ok {sg : Nat → Nat} {a0 : Nat} {Z : mjQ} {v9 : Nat} {Z9 : mjQ} (h : g245_grow sg a0 Z = some (v9, Z9)) : pE sg 4 245 0 (mjEnt [.ref a0] (mjML 245)) [] Z (fun r M1 => r = some (.ref v9) ∧ M1 = Z9) := by
  unfold g245_grow at h
  show pE sg 4 245 0 [some (.ref a0)] [] Z _
  refine pE_many 2 (pc1 := 2) (L1 := [some (.ref a0)]) (st1 := [.ref a0, .ref a0]) rfl ?_
  cases hq102 : qI Z.2 a0 20 2 with
  | none => rw [hq102] at h; cases h
  | some v101 =>
    rw [hq102, mjBp_some] at h
    refine pE_gI rfl rfl hq102 ?_
    refine pE_many 2 (pc1 := 7) (L1 := [some (.ref a0)]) (st1 := [.int (v101 + 1), .ref a0]) rfl ?_
    have hk103 : mjRo Z.2 a0 20 = true := by
      by_cases q9 : mjRo Z.2 a0 20 = true
      · exact q9
      · rw [if_neg q9] at h; cases h
    rw [if_pos hk103] at h
    cases hq104 : g246_grow sg a0 (v101 + 1) Z with
    | none => rw [hq104] at h; cases h
    | some w =>
      obtain ⟨v105, Z106⟩ := w
      rw [hq104, mjBq_some] at h
      refine pE_callV (k2 := 246) (As := [.int (v101 + 1)]) (rest := []) rfl rfl rfl rfl rfl rfl hk103 (by decide) (by decide) (by decide) (g246_grow_ok hq104) ?_
      show pE sg 4 245 10 [some (.ref a0)] [.ref v105] Z106 _
      simp only [Option.some.injEq, Prod.mk.injEq] at h
      obtain ⟨rfl, rfl⟩ := h
      exact pE_ret (r := some (.ref v105)) rfl ⟨rfl, rfl⟩
def g241_add_j11 (sg : Nat → Nat) (x0 : Nat) (x1 : Nat) (x2 : Nat) (x3 : Int32) (Z : mjQ) : Option (Unit × mjQ) :=
  mjBp (qSra Z x2 x3 x1) fun Z104 =>
  mjBp (qSi Z104 x0 20 2 (x3 + 1)) fun Z106 =>
  some ((), Z106)
theorem g241_add_j11_ok {sg : Nat → Nat} (x0 : Nat) (x1 : Nat) (x2 : Nat) (x3 : Int32) (Z : mjQ) (v9 : Unit) (Z9 : mjQ) (h : g241_add_j11 sg x0 x1 x2 x3 Z = some (v9, Z9)) : pE sg 5 241 11 [some (.ref x0), some (.ref x1), some (.ref x2), some (.int x3)] [] Z (fun r M1 => r = none ∧ M1 = Z9) := by
  unfold g241_add_j11 at h
  refine pE_many 3 (pc1 := 14) (L1 := [some (.ref x0), some (.ref x1), some (.ref x2), some (.int x3)]) (st1 := [.ref x1, .int x3, .ref x2]) rfl ?_
  cases hq105 : qSra Z x2 x3 x1 with
  | none => rw [hq105] at h; cases h
  | some Z104 =>
    rw [hq105, mjBp_some] at h
    refine pE_aas rfl (by decide) hq105 ?_
    refine pE_many 4 (pc1 := 19) (L1 := [some (.ref x0), some (.ref x1), some (.ref x2), some (.int x3)]) (st1 := [.int (x3 + 1), .ref x0]) rfl ?_
    cases hq107 : qSi Z104 x0 20 2 (x3 + 1) with
    | none => rw [hq107] at h; cases h
    | some Z106 =>
      rw [hq107, mjBp_some] at h
      refine pE_pI rfl rfl (by decide) (by decide) hq107 ?_
      simp only [Option.some.injEq, Prod.mk.injEq] at h
      obtain ⟨-, rfl⟩ := h
      exact pE_ret (r := none) rfl ⟨rfl, rfl⟩
def g241_add (sg : Nat → Nat) (a0 : Nat) (p0 : Nat) (p1 : Nat) (p2 : Int32) (Z : mjQ) : Option (Unit × mjQ) :=
  mjBp (qLn Z.2 p1) fun v101 =>
  if mjCmp .ne p2 v101 = true then
    g241_add_j11 sg a0 p0 p1 p2 Z
  else
    if mjRo Z.2 a0 20 = true then
    mjBq (g245_grow sg a0 Z) fun v110 Z111 =>
    g241_add_j11 sg a0 p0 v110 p2 Z111
    else none
theorem g241_add_ok {sg : Nat → Nat} {a0 : Nat} {p0 : Nat} {p1 : Nat} {p2 : Int32} {Z : mjQ} {v9 : Unit} {Z9 : mjQ} (h : g241_add sg a0 p0 p1 p2 Z = some (v9, Z9)) : pE sg 5 241 0 (mjEnt [.ref a0, .ref p0, .ref p1, .int p2] (mjML 241)) [] Z (fun r M1 => r = none ∧ M1 = Z9) := by
  unfold g241_add at h
  show pE sg 5 241 0 [some (.ref a0), some (.ref p0), some (.ref p1), some (.int p2)] [] Z _
  refine pE_many 2 (pc1 := 2) (L1 := [some (.ref a0), some (.ref p0), some (.ref p1), some (.int p2)]) (st1 := [.ref p1, .int p2]) rfl ?_
  cases hq102 : qLn Z.2 p1 with
  | none => rw [hq102] at h; cases h
  | some v101 =>
    rw [hq102, mjBp_some] at h
    refine pE_len rfl hq102 ?_
    by_cases hc103 : mjCmp .ne p2 v101 = true
    · rw [if_pos hc103] at h
      refine pE_cmt (t := 11) rfl rfl hc103 ?_
      exact g241_add_j11_ok a0 p0 p1 p2 Z v9 Z9 h
    · rw [if_neg hc103] at h
      refine pE_cmf (t := 11) rfl rfl hc103 ?_
      refine pE_many 1 (pc1 := 7) (L1 := [some (.ref a0), some (.ref p0), some (.ref p1), some (.int p2)]) (st1 := [.ref a0]) rfl ?_
      have hk108 : mjRo Z.2 a0 20 = true := by
        by_cases q9 : mjRo Z.2 a0 20 = true
        · exact q9
        · rw [if_neg q9] at h; cases h
      rw [if_pos hk108] at h
      cases hq109 : g245_grow sg a0 Z with
      | none => rw [hq109] at h; cases h
      | some w =>
        obtain ⟨v110, Z111⟩ := w
        rw [hq109, mjBq_some] at h
        refine pE_callV (k2 := 245) (As := []) (rest := []) rfl rfl rfl rfl rfl rfl hk108 (by decide) (by decide) (by decide) (g245_grow_ok hq109) ?_
        show pE sg 5 241 10 [some (.ref a0), some (.ref p0), some (.ref p1), some (.int p2)] [.ref v110] Z111 _
        refine pE_many 1 (pc1 := 11) (L1 := [some (.ref a0), some (.ref p0), some (.ref v110), some (.int p2)]) (st1 := []) rfl ?_
        exact g241_add_j11_ok a0 p0 v110 p2 Z111 v9 Z9 h
def g240_add (sg : Nat → Nat) (a0 : Nat) (p0 : Nat) (Z : mjQ) : Option (Int32 × mjQ) :=
  mjBp (qI Z.2 a0 20 0) fun v101 =>
  mjBp (qSi Z a0 20 0 (v101 + 1)) fun Z103 =>
  mjBp (qR Z103.2 a0 20 1) fun v105 =>
  mjBp (qI Z103.2 a0 20 2) fun v107 =>
  if mjRo Z103.2 a0 20 = true then
  mjBq (g241_add sg a0 p0 v105 v107 Z103) fun _ Z112 =>
  some (1, Z112)
  else none
theorem g240_add_ok {sg : Nat → Nat} {a0 : Nat} {p0 : Nat} {Z : mjQ} {v9 : Int32} {Z9 : mjQ} (h : g240_add sg a0 p0 Z = some (v9, Z9)) : pE sg 6 240 0 (mjEnt [.ref a0, .ref p0] (mjML 240)) [] Z (fun r M1 => r = some (.int v9) ∧ M1 = Z9) := by
  unfold g240_add at h
  show pE sg 6 240 0 [some (.ref a0), some (.ref p0)] [] Z _
  refine pE_many 2 (pc1 := 2) (L1 := [some (.ref a0), some (.ref p0)]) (st1 := [.ref a0, .ref a0]) rfl ?_
  cases hq102 : qI Z.2 a0 20 0 with
  | none => rw [hq102] at h; cases h
  | some v101 =>
    rw [hq102, mjBp_some] at h
    refine pE_gI rfl rfl hq102 ?_
    refine pE_many 2 (pc1 := 7) (L1 := [some (.ref a0), some (.ref p0)]) (st1 := [.int (v101 + 1), .ref a0]) rfl ?_
    cases hq104 : qSi Z a0 20 0 (v101 + 1) with
    | none => rw [hq104] at h; cases h
    | some Z103 =>
      rw [hq104, mjBp_some] at h
      refine pE_pI rfl rfl (by decide) (by decide) hq104 ?_
      refine pE_many 3 (pc1 := 13) (L1 := [some (.ref a0), some (.ref p0)]) (st1 := [.ref a0, .ref p0, .ref a0]) rfl ?_
      cases hq106 : qR Z103.2 a0 20 1 with
      | none => rw [hq106] at h; cases h
      | some v105 =>
        rw [hq106, mjBp_some] at h
        refine pE_gR rfl rfl hq106 ?_
        refine pE_many 1 (pc1 := 17) (L1 := [some (.ref a0), some (.ref p0)]) (st1 := [.ref a0, .ref v105, .ref p0, .ref a0]) rfl ?_
        cases hq108 : qI Z103.2 a0 20 2 with
        | none => rw [hq108] at h; cases h
        | some v107 =>
          rw [hq108, mjBp_some] at h
          refine pE_gI rfl rfl hq108 ?_
          have hk109 : mjRo Z103.2 a0 20 = true := by
            by_cases q9 : mjRo Z103.2 a0 20 = true
            · exact q9
            · rw [if_neg q9] at h; cases h
          rw [if_pos hk109] at h
          cases hq110 : g241_add sg a0 p0 v105 v107 Z103 with
          | none => rw [hq110] at h; cases h
          | some w =>
            obtain ⟨v111, Z112⟩ := w
            rw [hq110, mjBq_some] at h
            refine pE_callV (k2 := 241) (As := [.ref p0, .ref v105, .int v107]) (rest := []) rfl rfl rfl rfl rfl rfl hk109 (by decide) (by decide) (by decide) (g241_add_ok hq110) ?_
            show pE sg 6 240 23 [some (.ref a0), some (.ref p0)] [] Z112 _
            refine pE_many 1 (pc1 := 24) (L1 := [some (.ref a0), some (.ref p0)]) (st1 := [.int 1]) rfl ?_
            simp only [Option.some.injEq, Prod.mk.injEq] at h
            obtain ⟨rfl, rfl⟩ := h
            exact pE_ret (r := some (.int 1)) rfl ⟨rfl, rfl⟩
def g221_intValue (a0 : Nat) (Z : mjQ) : Option Int32 :=
  mjBp (qI Z.2 a0 17 0) fun v101 =>
  some v101
theorem g221_intValue_ok {sg : Nat → Nat} {a0 : Nat} {Z : mjQ} {v9 : Int32} (h : g221_intValue a0 Z = some v9) : pE sg 1 221 0 (mjEnt [.ref a0] (mjML 221)) [] Z (fun r M1 => r = some (.int v9) ∧ M1 = Z) := by
  unfold g221_intValue at h
  show pE sg 1 221 0 [some (.ref a0)] [] Z _
  refine pE_many 1 (pc1 := 1) (L1 := [some (.ref a0)]) (st1 := [.ref a0]) rfl ?_
  cases hq102 : qI Z.2 a0 17 0 with
  | none => rw [hq102] at h; cases h
  | some v101 =>
    rw [hq102, mjBp_some] at h
    refine pE_gI rfl rfl hq102 ?_
    simp only [Option.some.injEq] at h
    subst h
    exact pE_ret (r := some (.int v101)) rfl ⟨rfl, rfl⟩
def g219_equals (a0 : Nat) (p0 : Nat) (Z : mjQ) : Option Int32 :=
  if mjIcd p0 = true then
  if mjCmp .eq 1 0 = true then
    some 0
  else
    mjBp (qI Z.2 a0 17 0) fun v103 =>
    if mjRo Z.2 p0 17 = true then
    mjBp (g221_intValue p0 Z) fun v107 =>
    if mjCmp .ne v103 v107 = true then
      some 0
    else
      some 1
    else none
  else none
theorem g219_equals_ok {sg : Nat → Nat} {a0 : Nat} {p0 : Nat} {Z : mjQ} {v9 : Int32} (h : g219_equals a0 p0 Z = some v9) : pE sg 2 219 0 (mjEnt [.ref a0, .ref p0] (mjML 219)) [] Z (fun r M1 => r = some (.int v9) ∧ M1 = Z) := by
  unfold g219_equals at h
  show pE sg 2 219 0 [some (.ref a0), some (.ref p0)] [] Z _
  refine pE_many 1 (pc1 := 1) (L1 := [some (.ref a0), some (.ref p0)]) (st1 := [.ref p0]) rfl ?_
  have hk101 : mjIcd p0 = true := by
    by_cases q9 : mjIcd p0 = true
    · exact q9
    · rw [if_neg q9] at h; cases h
  rw [if_pos hk101] at h
  refine pE_ins1 rfl (Or.inl ⟨rfl, hk101⟩) ?_
  by_cases hc102 : mjCmp .eq 1 0 = true
  · rw [if_pos hc102] at h
    refine pE_ift (t := 27) rfl rfl hc102 ?_
    refine pE_many 1 (pc1 := 28) (L1 := [some (.ref a0), some (.ref p0)]) (st1 := [.int 0]) rfl ?_
    simp only [Option.some.injEq] at h
    subst h
    exact pE_ret (r := some (.int 0)) rfl ⟨rfl, rfl⟩
  · rw [if_neg hc102] at h
    refine pE_iff (t := 27) rfl rfl hc102 ?_
    refine pE_many 1 (pc1 := 8) (L1 := [some (.ref a0), some (.ref p0)]) (st1 := [.ref a0]) rfl ?_
    cases hq104 : qI Z.2 a0 17 0 with
    | none => rw [hq104] at h; cases h
    | some v103 =>
      rw [hq104, mjBp_some] at h
      refine pE_gI rfl rfl hq104 ?_
      refine pE_many 1 (pc1 := 12) (L1 := [some (.ref a0), some (.ref p0)]) (st1 := [.ref p0, .int v103]) rfl ?_
      refine pE_cast rfl (Or.inl ⟨rfl, hk101⟩) ?_
      have hk105 : mjRo Z.2 p0 17 = true := by
        by_cases q9 : mjRo Z.2 p0 17 = true
        · exact q9
        · rw [if_neg q9] at h; cases h
      rw [if_pos hk105] at h
      cases hq106 : g221_intValue p0 Z with
      | none => rw [hq106] at h; cases h
      | some v107 =>
        rw [hq106, mjBp_some] at h
        refine pE_callV (k2 := 221) (As := []) (rest := [.int v103]) rfl rfl rfl rfl rfl rfl hk105 (by decide) (by decide) (by decide) (g221_intValue_ok hq106) ?_
        show pE sg 2 219 18 [some (.ref a0), some (.ref p0)] [.int v107, .int v103] Z _
        by_cases hc109 : mjCmp .ne v103 v107 = true
        · rw [if_pos hc109] at h
          refine pE_cmt (t := 25) rfl rfl hc109 ?_
          refine pE_many 1 (pc1 := 26) (L1 := [some (.ref a0), some (.ref p0)]) (st1 := [.int 0]) rfl ?_
          simp only [Option.some.injEq] at h
          subst h
          exact pE_ret (r := some (.int 0)) rfl ⟨rfl, rfl⟩
        · rw [if_neg hc109] at h
          refine pE_cmf (t := 25) rfl rfl hc109 ?_
          refine pE_many 2 (pc1 := 26) (L1 := [some (.ref a0), some (.ref p0)]) (st1 := [.int 1]) rfl ?_
          simp only [Option.some.injEq] at h
          subst h
          exact pE_ret (r := some (.int 1)) rfl ⟨rfl, rfl⟩
def g248_indexOfRange_h42 : Nat → Nat → Int32 → Nat → Int32 → mjQ → Option Int32
  | 0, _, _, _, _, _ => none
  | n + 1, x1, x3, x4, x5, Z =>
    if mjCmp .ge x5 x3 = true then
      some ((-1))
    else
      mjBp (qAa Z.2 x4 x5) fun v104 =>
      if mjRo Z.2 x1 17 = true then
      mjBp (g219_equals x1 v104 Z) fun v108 =>
      if mjCmp .eq v108 0 = true then
        g248_indexOfRange_h42 n x1 x3 x4 (x5 + 1) Z
      else
        some x5
      else none
theorem g248_indexOfRange_h42_ok {sg : Nat → Nat} : ∀ (n : Nat) (x1 : Nat) (x3 : Int32) (x4 : Nat) (x5 : Int32) (d0 d2 : Option Value) (Z : mjQ) (v9 : Int32), g248_indexOfRange_h42 n x1 x3 x4 x5 Z = some v9 → pE sg 3 248 42 [d0, some (.ref x1), d2, some (.int x3), some (.ref x4), some (.int x5)] [] Z (fun r M1 => r = some (.int v9) ∧ M1 = Z)
  | 0, x1, x3, x4, x5, d0, d2, Z, v9, h => by rw [g248_indexOfRange_h42] at h; cases h
  | n + 1, x1, x3, x4, x5, d0, d2, Z, v9, h => by
      rw [g248_indexOfRange_h42] at h
      refine pE_many 2 (pc1 := 45) (L1 := [d0, some (.ref x1), d2, some (.int x3), some (.ref x4), some (.int x5)]) (st1 := [.int x3, .int x5]) rfl ?_
      by_cases hc103 : mjCmp .ge x5 x3 = true
      · rw [if_pos hc103] at h
        refine pE_cmt (t := 69) rfl rfl hc103 ?_
        refine pE_many 1 (pc1 := 70) (L1 := [d0, some (.ref x1), d2, some (.int x3), some (.ref x4), some (.int x5)]) (st1 := [.int ((-1))]) rfl ?_
        simp only [Option.some.injEq] at h
        subst h
        exact pE_ret (r := some (.int ((-1)))) rfl ⟨rfl, rfl⟩
      · rw [if_neg hc103] at h
        refine pE_cmf (t := 69) rfl rfl hc103 ?_
        refine pE_many 3 (pc1 := 53) (L1 := [d0, some (.ref x1), d2, some (.int x3), some (.ref x4), some (.int x5)]) (st1 := [.int x5, .ref x4, .ref x1]) rfl ?_
        cases hq105 : qAa Z.2 x4 x5 with
        | none => rw [hq105] at h; cases h
        | some v104 =>
          rw [hq105, mjBp_some] at h
          refine pE_aal rfl hq105 ?_
          have hk106 : mjRo Z.2 x1 17 = true := by
            by_cases q9 : mjRo Z.2 x1 17 = true
            · exact q9
            · rw [if_neg q9] at h; cases h
          rw [if_pos hk106] at h
          cases hq107 : g219_equals x1 v104 Z with
          | none => rw [hq107] at h; cases h
          | some v108 =>
            rw [hq107, mjBp_some] at h
            refine pE_callV (k2 := 219) (As := [.ref v104]) (rest := []) rfl rfl rfl rfl rfl rfl hk106 (by decide) (by decide) (by decide) (g219_equals_ok hq107) ?_
            show pE sg 3 248 57 [d0, some (.ref x1), d2, some (.int x3), some (.ref x4), some (.int x5)] [.int v108] Z _
            by_cases hc110 : mjCmp .eq v108 0 = true
            · rw [if_pos hc110] at h
              refine pE_ift (t := 63) rfl rfl hc110 ?_
              refine pE_many 2 (pc1 := 42) (L1 := [d0, some (.ref x1), d2, some (.int x3), some (.ref x4), some (.int (x5 + 1))]) (st1 := []) rfl ?_
              exact g248_indexOfRange_h42_ok n x1 x3 x4 (x5 + 1) d0 d2 Z v9 h
            · rw [if_neg hc110] at h
              refine pE_iff (t := 63) rfl rfl hc110 ?_
              refine pE_many 1 (pc1 := 62) (L1 := [d0, some (.ref x1), d2, some (.int x3), some (.ref x4), some (.int x5)]) (st1 := [.int x5]) rfl ?_
              simp only [Option.some.injEq] at h
              subst h
              exact pE_ret (r := some (.int x5)) rfl ⟨rfl, rfl⟩
def g248_indexOfRange (a0 : Nat) (p0 : Nat) (p1 : Int32) (p2 : Int32) (Z : mjQ) : Option Int32 :=
  mjBp (qR Z.2 a0 20 1) fun v101 =>
  g248_indexOfRange_h42 mjF p0 p2 v101 p1 Z
theorem g248_indexOfRange_ok {sg : Nat → Nat} {a0 : Nat} {p0 : Nat} {p1 : Int32} {p2 : Int32} {Z : mjQ} {v9 : Int32} (h : g248_indexOfRange a0 p0 p1 p2 Z = some v9) : pE sg 3 248 0 (mjEnt [.ref a0, .ref p0, .int p1, .int p2] (mjML 248)) [] Z (fun r M1 => r = some (.int v9) ∧ M1 = Z) := by
  unfold g248_indexOfRange at h
  show pE sg 3 248 0 [some (.ref a0), some (.ref p0), some (.int p1), some (.int p2), none, none] [] Z _
  refine pE_many 1 (pc1 := 1) (L1 := [some (.ref a0), some (.ref p0), some (.int p1), some (.int p2), none, none]) (st1 := [.ref a0]) rfl ?_
  cases hq102 : qR Z.2 a0 20 1 with
  | none => rw [hq102] at h; cases h
  | some v101 =>
    rw [hq102, mjBp_some] at h
    refine pE_gR rfl rfl hq102 ?_
    refine pE_many 5 (pc1 := 42) (L1 := [some (.ref a0), some (.ref p0), some (.int p1), some (.int p2), some (.ref v101), some (.int p1)]) (st1 := []) rfl ?_
    exact g248_indexOfRange_h42_ok mjF p0 p2 v101 p1 (some (.ref a0)) (some (.int p1)) Z v9 h
def g247_indexOf (a0 : Nat) (p0 : Nat) (Z : mjQ) : Option Int32 :=
  mjBp (qI Z.2 a0 20 2) fun v101 =>
  if mjRo Z.2 a0 20 = true then
  mjBp (g248_indexOfRange a0 p0 0 v101 Z) fun v105 =>
  some v105
  else none
theorem g247_indexOf_ok {sg : Nat → Nat} {a0 : Nat} {p0 : Nat} {Z : mjQ} {v9 : Int32} (h : g247_indexOf a0 p0 Z = some v9) : pE sg 4 247 0 (mjEnt [.ref a0, .ref p0] (mjML 247)) [] Z (fun r M1 => r = some (.int v9) ∧ M1 = Z) := by
  unfold g247_indexOf at h
  show pE sg 4 247 0 [some (.ref a0), some (.ref p0)] [] Z _
  refine pE_many 4 (pc1 := 4) (L1 := [some (.ref a0), some (.ref p0)]) (st1 := [.ref a0, .int 0, .ref p0, .ref a0]) rfl ?_
  cases hq102 : qI Z.2 a0 20 2 with
  | none => rw [hq102] at h; cases h
  | some v101 =>
    rw [hq102, mjBp_some] at h
    refine pE_gI rfl rfl hq102 ?_
    have hk103 : mjRo Z.2 a0 20 = true := by
      by_cases q9 : mjRo Z.2 a0 20 = true
      · exact q9
      · rw [if_neg q9] at h; cases h
    rw [if_pos hk103] at h
    cases hq104 : g248_indexOfRange a0 p0 0 v101 Z with
    | none => rw [hq104] at h; cases h
    | some v105 =>
      rw [hq104, mjBp_some] at h
      refine pE_callV (k2 := 248) (As := [.ref p0, .int 0, .int v101]) (rest := []) rfl rfl rfl rfl rfl rfl hk103 (by decide) (by decide) (by decide) (g248_indexOfRange_ok hq104) ?_
      show pE sg 4 247 10 [some (.ref a0), some (.ref p0)] [.int v105] Z _
      simp only [Option.some.injEq] at h
      subst h
      exact pE_ret (r := some (.int v105)) rfl ⟨rfl, rfl⟩
def g242_contains (a0 : Nat) (p0 : Nat) (Z : mjQ) : Option Int32 :=
  if mjRo Z.2 a0 20 = true then
  mjBp (g247_indexOf a0 p0 Z) fun v103 =>
  if mjCmp .lt v103 0 = true then
    some 0
  else
    some 1
  else none
theorem g242_contains_ok {sg : Nat → Nat} {a0 : Nat} {p0 : Nat} {Z : mjQ} {v9 : Int32} (h : g242_contains a0 p0 Z = some v9) : pE sg 5 242 0 (mjEnt [.ref a0, .ref p0] (mjML 242)) [] Z (fun r M1 => r = some (.int v9) ∧ M1 = Z) := by
  unfold g242_contains at h
  show pE sg 5 242 0 [some (.ref a0), some (.ref p0)] [] Z _
  refine pE_many 2 (pc1 := 2) (L1 := [some (.ref a0), some (.ref p0)]) (st1 := [.ref p0, .ref a0]) rfl ?_
  have hk101 : mjRo Z.2 a0 20 = true := by
    by_cases q9 : mjRo Z.2 a0 20 = true
    · exact q9
    · rw [if_neg q9] at h; cases h
  rw [if_pos hk101] at h
  cases hq102 : g247_indexOf a0 p0 Z with
  | none => rw [hq102] at h; cases h
  | some v103 =>
    rw [hq102, mjBp_some] at h
    refine pE_callV (k2 := 247) (As := [.ref p0]) (rest := []) rfl rfl rfl rfl rfl rfl hk101 (by decide) (by decide) (by decide) (g247_indexOf_ok hq102) ?_
    show pE sg 5 242 5 [some (.ref a0), some (.ref p0)] [.int v103] Z _
    by_cases hc105 : mjCmp .lt v103 0 = true
    · rw [if_pos hc105] at h
      refine pE_ift (t := 12) rfl rfl hc105 ?_
      refine pE_many 1 (pc1 := 13) (L1 := [some (.ref a0), some (.ref p0)]) (st1 := [.int 0]) rfl ?_
      simp only [Option.some.injEq] at h
      subst h
      exact pE_ret (r := some (.int 0)) rfl ⟨rfl, rfl⟩
    · rw [if_neg hc105] at h
      refine pE_iff (t := 12) rfl rfl hc105 ?_
      refine pE_many 2 (pc1 := 13) (L1 := [some (.ref a0), some (.ref p0)]) (st1 := [.int 1]) rfl ?_
      simp only [Option.some.injEq] at h
      subst h
      exact pE_ret (r := some (.int 1)) rfl ⟨rfl, rfl⟩
def g243_elementData (a0 : Nat) (p0 : Int32) (Z : mjQ) : Option Nat :=
  mjBp (qR Z.2 a0 20 1) fun v101 =>
  mjBp (qAa Z.2 v101 p0) fun v103 =>
  some v103
theorem g243_elementData_ok {sg : Nat → Nat} {a0 : Nat} {p0 : Int32} {Z : mjQ} {v9 : Nat} (h : g243_elementData a0 p0 Z = some v9) : pE sg 1 243 0 (mjEnt [.ref a0, .int p0] (mjML 243)) [] Z (fun r M1 => r = some (.ref v9) ∧ M1 = Z) := by
  unfold g243_elementData at h
  show pE sg 1 243 0 [some (.ref a0), some (.int p0)] [] Z _
  refine pE_many 1 (pc1 := 1) (L1 := [some (.ref a0), some (.int p0)]) (st1 := [.ref a0]) rfl ?_
  cases hq102 : qR Z.2 a0 20 1 with
  | none => rw [hq102] at h; cases h
  | some v101 =>
    rw [hq102, mjBp_some] at h
    refine pE_gR rfl rfl hq102 ?_
    refine pE_many 1 (pc1 := 5) (L1 := [some (.ref a0), some (.int p0)]) (st1 := [.int p0, .ref v101]) rfl ?_
    cases hq104 : qAa Z.2 v101 p0 with
    | none => rw [hq104] at h; cases h
    | some v103 =>
      rw [hq104, mjBp_some] at h
      refine pE_aal rfl hq104 ?_
      simp only [Option.some.injEq] at h
      subst h
      exact pE_ret (r := some (.ref v103)) rfl ⟨rfl, rfl⟩
def g176_checkIndex (p0 : Int32) (p1 : Int32) (p2 : Option Nat) (Z : mjQ) : Option Int32 :=
  if mjCmp .lt p0 0 = true then
    none
  else
    if mjCmp .lt p0 p1 = true then
      some p0
    else
      none
theorem g176_checkIndex_ok {sg : Nat → Nat} {p0 : Int32} {p1 : Int32} {p2 : Option Nat} {Z : mjQ} {v9 : Int32} (h : g176_checkIndex p0 p1 p2 Z = some v9) : pE sg 1 176 0 (mjEnt [.int p0, .int p1, va_rf p2] (mjML 176)) [] Z (fun r M1 => r = some (.int v9) ∧ M1 = Z) := by
  unfold g176_checkIndex at h
  rw [show mjEnt [.int p0, .int p1, va_rf p2] (mjML 176) = [some (.int p0), some (.int p1), some (va_rf p2)] from by cases p2 <;> rfl]
  show pE sg 1 176 0 [some (.int p0), some (.int p1), some (va_rf p2)] [] Z _
  refine pE_many 1 (pc1 := 1) (L1 := [some (.int p0), some (.int p1), some (va_rf p2)]) (st1 := [.int p0]) rfl ?_
  by_cases hc101 : mjCmp .lt p0 0 = true
  · rw [if_pos hc101] at h
    refine pE_ift (t := 9) rfl rfl hc101 ?_
    refine pE_aln (o := p2) rfl rfl ?_
    refine pE_many 2 (pc1 := 12) (L1 := [some (.int p0), some (.int p1), some (va_rf p2)]) (st1 := [.int p1, .int p0, va_rf p2]) rfl ?_
    cases h
  · rw [if_neg hc101] at h
    refine pE_iff (t := 9) rfl rfl hc101 ?_
    refine pE_many 2 (pc1 := 6) (L1 := [some (.int p0), some (.int p1), some (va_rf p2)]) (st1 := [.int p1, .int p0]) rfl ?_
    by_cases hc102 : mjCmp .lt p0 p1 = true
    · rw [if_pos hc102] at h
      refine pE_cmt (t := 16) rfl rfl hc102 ?_
      refine pE_many 1 (pc1 := 17) (L1 := [some (.int p0), some (.int p1), some (va_rf p2)]) (st1 := [.int p0]) rfl ?_
      simp only [Option.some.injEq] at h
      subst h
      exact pE_ret (r := some (.int p0)) rfl ⟨rfl, rfl⟩
    · rw [if_neg hc102] at h
      refine pE_cmf (t := 16) rfl rfl hc102 ?_
      refine pE_aln (o := p2) rfl rfl ?_
      refine pE_many 2 (pc1 := 12) (L1 := [some (.int p0), some (.int p1), some (va_rf p2)]) (st1 := [.int p1, .int p0, va_rf p2]) rfl ?_
      cases h
def g254_checkIndex (p0 : Int32) (p1 : Int32) (Z : mjQ) : Option Int32 :=
  mjBp (g176_checkIndex p0 p1 none Z) fun v102 =>
  some v102
theorem g254_checkIndex_ok {sg : Nat → Nat} {p0 : Int32} {p1 : Int32} {Z : mjQ} {v9 : Int32} (h : g254_checkIndex p0 p1 Z = some v9) : pE sg 2 254 0 (mjEnt [.int p0, .int p1] (mjML 254)) [] Z (fun r M1 => r = some (.int v9) ∧ M1 = Z) := by
  unfold g254_checkIndex at h
  show pE sg 2 254 0 [some (.int p0), some (.int p1)] [] Z _
  refine pE_many 3 (pc1 := 3) (L1 := [some (.int p0), some (.int p1)]) (st1 := [.null, .int p1, .int p0]) rfl ?_
  cases hq101 : g176_checkIndex p0 p1 none Z with
  | none => rw [hq101] at h; cases h
  | some v102 =>
    rw [hq101, mjBp_some] at h
    refine pE_call (k2 := 176) (As := [.int p0, .int p1, .null]) (rest := []) (w := 3) rfl (by decide) (by decide) (g176_checkIndex_ok hq101) ?_
    show pE sg 2 254 6 [some (.int p0), some (.int p1)] [.int v102] Z _
    simp only [Option.some.injEq] at h
    subst h
    exact pE_ret (r := some (.int v102)) rfl ⟨rfl, rfl⟩
def g244_get (a0 : Nat) (p0 : Int32) (Z : mjQ) : Option Nat :=
  mjBp (qI Z.2 a0 20 2) fun v101 =>
  mjBp (g254_checkIndex p0 v101 Z) fun v104 =>
  if mjRo Z.2 a0 20 = true then
  mjBp (g243_elementData a0 p0 Z) fun v108 =>
  some v108
  else none
theorem g244_get_ok {sg : Nat → Nat} {a0 : Nat} {p0 : Int32} {Z : mjQ} {v9 : Nat} (h : g244_get a0 p0 Z = some v9) : pE sg 3 244 0 (mjEnt [.ref a0, .int p0] (mjML 244)) [] Z (fun r M1 => r = some (.ref v9) ∧ M1 = Z) := by
  unfold g244_get at h
  show pE sg 3 244 0 [some (.ref a0), some (.int p0)] [] Z _
  refine pE_many 2 (pc1 := 2) (L1 := [some (.ref a0), some (.int p0)]) (st1 := [.ref a0, .int p0]) rfl ?_
  cases hq102 : qI Z.2 a0 20 2 with
  | none => rw [hq102] at h; cases h
  | some v101 =>
    rw [hq102, mjBp_some] at h
    refine pE_gI rfl rfl hq102 ?_
    cases hq103 : g254_checkIndex p0 v101 Z with
    | none => rw [hq103] at h; cases h
    | some v104 =>
      rw [hq103, mjBp_some] at h
      refine pE_call (k2 := 254) (As := [.int p0, .int v101]) (rest := []) (w := 3) rfl (by decide) (by decide) (g254_checkIndex_ok hq103) ?_
      show pE sg 3 244 8 [some (.ref a0), some (.int p0)] [.int v104] Z _
      refine pE_many 3 (pc1 := 11) (L1 := [some (.ref a0), some (.int p0)]) (st1 := [.int p0, .ref a0]) rfl ?_
      have hk106 : mjRo Z.2 a0 20 = true := by
        by_cases q9 : mjRo Z.2 a0 20 = true
        · exact q9
        · rw [if_neg q9] at h; cases h
      rw [if_pos hk106] at h
      cases hq107 : g243_elementData a0 p0 Z with
      | none => rw [hq107] at h; cases h
      | some v108 =>
        rw [hq107, mjBp_some] at h
        refine pE_callV (k2 := 243) (As := [.int p0]) (rest := []) rfl rfl rfl rfl rfl rfl hk106 (by decide) (by decide) (by decide) (g243_elementData_ok hq107) ?_
        show pE sg 3 244 14 [some (.ref a0), some (.int p0)] [.ref v108] Z _
        simp only [Option.some.injEq] at h
        subst h
        exact pE_ret (r := some (.ref v108)) rfl ⟨rfl, rfl⟩
def g189_u_j75 (sg : Nat → Nat) (E : Nat → Nat → Int32 → mjQ → Option (Nat × mjQ)) (x1 : Nat) (s0 : Int32) (Z : mjQ) : Option (Nat × mjQ) :=
  if mjRo Z.2 x1 19 = true then
  mjBq (g230_append sg x1 s0 Z) fun v135 Z136 =>
  mjBq (qNew sg Z136 (14, 0)) fun v137 Z139 =>
  mjBq (g187_init sg v137 1000028 s0 none none Z139) fun _ Z142 =>
  some (v137, Z142)
  else none
set_option maxRecDepth 100000 in
theorem g189_u_j75_ok {sg : Nat → Nat} {D : Nat} (E : Nat → Nat → Int32 → mjQ → Option (Nat × mjQ)) (hE : ∀ (a0 p0 : Nat) (p1 : Int32) (Z : mjQ) (v9 : Nat) (Z9 : mjQ), E a0 p0 p1 Z = some (v9, Z9) → pE sg D 190 0 (mjEnt [.ref a0, .ref p0, .int p1] (mjML 190)) [] Z (fun r M1 => r = some (.ref v9) ∧ M1 = Z9)) (hD : 20 ≤ D) (x1 : Nat) (s0 : Int32) (d0 d2 d3 d4 : Option Value) (Z : mjQ) (v9 : Nat) (Z9 : mjQ) (h : g189_u_j75 sg E x1 s0 Z = some (v9, Z9)) : pE sg (D + 1) 189 75 [d0, some (.ref x1), d2, d3, d4] [.int s0] Z (fun r M1 => r = some (.ref v9) ∧ M1 = Z9) := by
  unfold g189_u_j75 at h
  refine pE_many 3 (pc1 := 80) (L1 := [d0, some (.ref x1), d2, (mjK1 d3), some (.int s0)]) (st1 := [.int s0, .ref x1]) rfl ?_
  have hk133 : mjRo Z.2 x1 19 = true := by
    by_cases q9 : mjRo Z.2 x1 19 = true
    · exact q9
    · rw [if_neg q9] at h; cases h
  rw [if_pos hk133] at h
  cases hq134 : g230_append sg x1 s0 Z with
  | none => rw [hq134] at h; cases h
  | some w =>
    obtain ⟨v135, Z136⟩ := w
    rw [hq134, mjBq_some] at h
    refine pE_callV (k2 := 230) (As := [.int s0]) (rest := []) rfl rfl rfl rfl rfl rfl hk133 (by decide) (by decide) (by omega) (g230_append_ok hq134) ?_
    show pE sg (D + 1) 189 83 [d0, some (.ref x1), d2, (mjK1 d3), some (.int s0)] [.ref v135] Z136 _
    refine pE_many 1 (pc1 := 84) (L1 := [d0, some (.ref x1), d2, (mjK1 d3), some (.int s0)]) (st1 := []) rfl ?_
    cases hq138 : qNew sg Z136 (14, 0) with
    | none => rw [hq138] at h; cases h
    | some w =>
      obtain ⟨v137, Z139⟩ := w
      rw [hq138, mjBq_some] at h
      refine pE_newO rfl rfl (by decide) hq138 ?_
      refine pE_many 5 (pc1 := 94) (L1 := [d0, some (.ref x1), d2, (mjK1 d3), some (.int s0)]) (st1 := [.null, .null, .int s0, .ref 1000028, .ref v137, .ref v137]) rfl ?_
      cases hq140 : g187_init sg v137 1000028 s0 none none Z139 with
      | none => rw [hq140] at h; cases h
      | some w =>
        obtain ⟨v141, Z142⟩ := w
        rw [hq140, mjBq_some] at h
        refine pE_call (k2 := 187) (As := [.ref v137, .ref 1000028, .int s0, .null, .null]) (rest := [.ref v137]) (w := 3) rfl (by decide) (by omega) (g187_init_ok hq140) ?_
        show pE sg (D + 1) 189 97 [d0, some (.ref x1), d2, (mjK1 d3), some (.int s0)] [.ref v137] Z142 _
        simp only [Option.some.injEq, Prod.mk.injEq] at h
        obtain ⟨rfl, rfl⟩ := h
        exact pE_ret (r := some (.ref v137)) rfl ⟨rfl, rfl⟩
def g189_u_j11 (sg : Nat → Nat) (E : Nat → Nat → Int32 → mjQ → Option (Nat × mjQ)) (x0 : Nat) (x1 : Nat) (x2 : Int32) (s0 : Nat) (s1 : Int32) (Z : mjQ) : Option (Nat × mjQ) :=
  if mjRo Z.2 s0 13 = true then
  mjBq (g186_next sg s0 s1 Z) fun v104 Z105 =>
  if mjCmp .ne v104 4 = true then
    if mjCmp .ne v104 0 = true then
      if mjRo Z105.2 x0 13 = true then
      mjBq (g186_next sg x0 11 Z105) fun v110 Z111 =>
      mjBp (qAa Z111.2 1300000 v110) fun v112 =>
      if mjRo Z111.2 x1 19 = true then
      mjBq (g233_append sg x1 v112 Z111) fun v116 Z117 =>
      mjBq (qNew sg Z117 (14, 0)) fun v118 Z120 =>
      mjBq (g187_init sg v118 1000029 v110 none none Z120) fun _ Z123 =>
      some (v118, Z123)
      else none
      else none
    else
      if mjRo Z105.2 x0 13 = true then
      mjBq (g186_next sg x0 4 Z105) fun v126 Z127 =>
      if mjCmp .ne v126 0 = true then
        if mjRo Z127.2 x0 13 = true then
        mjBq (g186_next sg x0 12 Z127) fun v131 Z132 =>
        g189_u_j75 sg E x1 v131 Z132
        else none
      else
        if mjRo Z127.2 x0 13 = true then
        mjBq (g186_next sg x0 9999 Z127) fun v145 Z146 =>
        g189_u_j75 sg E x1 v145 Z146
        else none
      else none
  else
    if mjRo Z105.2 x1 19 = true then
    mjBq (g233_append sg x1 1000026 Z105) fun v149 Z150 =>
    if mjRo Z150.2 x0 13 = true then
    mjBq (E x0 x1 (x2 + 1) Z150) fun v153 Z154 =>
    if mjRo Z154.2 x1 19 = true then
    mjBq (g233_append sg x1 1000027 Z154) fun v157 Z158 =>
    some (v153, Z158)
    else none
    else none
    else none
  else none
set_option maxRecDepth 100000 in
theorem g189_u_j11_ok {sg : Nat → Nat} {D : Nat} (E : Nat → Nat → Int32 → mjQ → Option (Nat × mjQ)) (hE : ∀ (a0 p0 : Nat) (p1 : Int32) (Z : mjQ) (v9 : Nat) (Z9 : mjQ), E a0 p0 p1 Z = some (v9, Z9) → pE sg D 190 0 (mjEnt [.ref a0, .ref p0, .int p1] (mjML 190)) [] Z (fun r M1 => r = some (.ref v9) ∧ M1 = Z9)) (hD : 20 ≤ D) (x0 : Nat) (x1 : Nat) (x2 : Int32) (s0 : Nat) (s1 : Int32) (d3 d4 : Option Value) (Z : mjQ) (v9 : Nat) (Z9 : mjQ) (h : g189_u_j11 sg E x0 x1 x2 s0 s1 Z = some (v9, Z9)) : pE sg (D + 1) 189 11 [some (.ref x0), some (.ref x1), some (.int x2), d3, d4] [.int s1, .ref s0] Z (fun r M1 => r = some (.ref v9) ∧ M1 = Z9) := by
  unfold g189_u_j11 at h
  have hk102 : mjRo Z.2 s0 13 = true := by
    by_cases q9 : mjRo Z.2 s0 13 = true
    · exact q9
    · rw [if_neg q9] at h; cases h
  rw [if_pos hk102] at h
  cases hq103 : g186_next sg s0 s1 Z with
  | none => rw [hq103] at h; cases h
  | some w =>
    obtain ⟨v104, Z105⟩ := w
    rw [hq103, mjBq_some] at h
    refine pE_callV (k2 := 186) (As := [.int s1]) (rest := []) rfl rfl rfl rfl rfl rfl hk102 (by decide) (by decide) (by omega) (g186_next_ok hq103) ?_
    show pE sg (D + 1) 189 14 [some (.ref x0), some (.ref x1), some (.int x2), d3, d4] [.int v104] Z105 _
    refine pE_many 3 (pc1 := 17) (L1 := [some (.ref x0), some (.ref x1), some (.int x2), some (.int v104), d4]) (st1 := [.int 4, .int v104]) rfl ?_
    by_cases hc106 : mjCmp .ne v104 4 = true
    · rw [if_pos hc106] at h
      refine pE_cmt (t := 47) rfl rfl hc106 ?_
      refine pE_many 1 (pc1 := 48) (L1 := [some (.ref x0), some (.ref x1), some (.int x2), some (.int v104), d4]) (st1 := [.int v104]) rfl ?_
      by_cases hc107 : mjCmp .ne v104 0 = true
      · rw [if_pos hc107] at h
        refine pE_ift (t := 98) rfl rfl hc107 ?_
        refine pE_many 2 (pc1 := 101) (L1 := [some (.ref x0), some (.ref x1), some (.int x2), some (.int v104), d4]) (st1 := [.int 11, .ref x0]) rfl ?_
        have hk108 : mjRo Z105.2 x0 13 = true := by
          by_cases q9 : mjRo Z105.2 x0 13 = true
          · exact q9
          · rw [if_neg q9] at h; cases h
        rw [if_pos hk108] at h
        cases hq109 : g186_next sg x0 11 Z105 with
        | none => rw [hq109] at h; cases h
        | some w =>
          obtain ⟨v110, Z111⟩ := w
          rw [hq109, mjBq_some] at h
          refine pE_callV (k2 := 186) (As := [.int 11]) (rest := []) rfl rfl rfl rfl rfl rfl hk108 (by decide) (by decide) (by omega) (g186_next_ok hq109) ?_
          show pE sg (D + 1) 189 104 [some (.ref x0), some (.ref x1), some (.int x2), some (.int v104), d4] [.int v110] Z111 _
          refine pE_many 4 (pc1 := 112) (L1 := [some (.ref x0), some (.ref x1), some (.int x2), some (.int v104), some (.int v110)]) (st1 := [.int v110, .ref 1300000, .ref x1]) rfl ?_
          cases hq113 : qAa Z111.2 1300000 v110 with
          | none => rw [hq113] at h; cases h
          | some v112 =>
            rw [hq113, mjBp_some] at h
            refine pE_aal rfl hq113 ?_
            have hk114 : mjRo Z111.2 x1 19 = true := by
              by_cases q9 : mjRo Z111.2 x1 19 = true
              · exact q9
              · rw [if_neg q9] at h; cases h
            rw [if_pos hk114] at h
            cases hq115 : g233_append sg x1 v112 Z111 with
            | none => rw [hq115] at h; cases h
            | some w =>
              obtain ⟨v116, Z117⟩ := w
              rw [hq115, mjBq_some] at h
              refine pE_callV (k2 := 233) (As := [.ref v112]) (rest := []) rfl rfl rfl rfl rfl rfl hk114 (by decide) (by decide) (by omega) (g233_append_ok hq115) ?_
              show pE sg (D + 1) 189 116 [some (.ref x0), some (.ref x1), some (.int x2), some (.int v104), some (.int v110)] [.ref v116] Z117 _
              refine pE_many 1 (pc1 := 117) (L1 := [some (.ref x0), some (.ref x1), some (.int x2), some (.int v104), some (.int v110)]) (st1 := []) rfl ?_
              cases hq119 : qNew sg Z117 (14, 0) with
              | none => rw [hq119] at h; cases h
              | some w =>
                obtain ⟨v118, Z120⟩ := w
                rw [hq119, mjBq_some] at h
                refine pE_newO rfl rfl (by decide) hq119 ?_
                refine pE_many 5 (pc1 := 127) (L1 := [some (.ref x0), some (.ref x1), some (.int x2), some (.int v104), some (.int v110)]) (st1 := [.null, .null, .int v110, .ref 1000029, .ref v118, .ref v118]) rfl ?_
                cases hq121 : g187_init sg v118 1000029 v110 none none Z120 with
                | none => rw [hq121] at h; cases h
                | some w =>
                  obtain ⟨v122, Z123⟩ := w
                  rw [hq121, mjBq_some] at h
                  refine pE_call (k2 := 187) (As := [.ref v118, .ref 1000029, .int v110, .null, .null]) (rest := [.ref v118]) (w := 3) rfl (by decide) (by omega) (g187_init_ok hq121) ?_
                  show pE sg (D + 1) 189 130 [some (.ref x0), some (.ref x1), some (.int x2), some (.int v104), some (.int v110)] [.ref v118] Z123 _
                  simp only [Option.some.injEq, Prod.mk.injEq] at h
                  obtain ⟨rfl, rfl⟩ := h
                  exact pE_ret (r := some (.ref v118)) rfl ⟨rfl, rfl⟩
      · rw [if_neg hc107] at h
        refine pE_iff (t := 98) rfl rfl hc107 ?_
        refine pE_many 2 (pc1 := 53) (L1 := [some (.ref x0), some (.ref x1), some (.int x2), some (.int v104), d4]) (st1 := [.int 4, .ref x0]) rfl ?_
        have hk124 : mjRo Z105.2 x0 13 = true := by
          by_cases q9 : mjRo Z105.2 x0 13 = true
          · exact q9
          · rw [if_neg q9] at h; cases h
        rw [if_pos hk124] at h
        cases hq125 : g186_next sg x0 4 Z105 with
        | none => rw [hq125] at h; cases h
        | some w =>
          obtain ⟨v126, Z127⟩ := w
          rw [hq125, mjBq_some] at h
          refine pE_callV (k2 := 186) (As := [.int 4]) (rest := []) rfl rfl rfl rfl rfl rfl hk124 (by decide) (by decide) (by omega) (g186_next_ok hq125) ?_
          show pE sg (D + 1) 189 56 [some (.ref x0), some (.ref x1), some (.int x2), some (.int v104), d4] [.int v126] Z127 _
          by_cases hc128 : mjCmp .ne v126 0 = true
          · rw [if_pos hc128] at h
            refine pE_ift (t := 69) rfl rfl hc128 ?_
            refine pE_many 2 (pc1 := 72) (L1 := [some (.ref x0), some (.ref x1), some (.int x2), some (.int v104), d4]) (st1 := [.int 12, .ref x0]) rfl ?_
            have hk129 : mjRo Z127.2 x0 13 = true := by
              by_cases q9 : mjRo Z127.2 x0 13 = true
              · exact q9
              · rw [if_neg q9] at h; cases h
            rw [if_pos hk129] at h
            cases hq130 : g186_next sg x0 12 Z127 with
            | none => rw [hq130] at h; cases h
            | some w =>
              obtain ⟨v131, Z132⟩ := w
              rw [hq130, mjBq_some] at h
              refine pE_callV (k2 := 186) (As := [.int 12]) (rest := []) rfl rfl rfl rfl rfl rfl hk129 (by decide) (by decide) (by omega) (g186_next_ok hq130) ?_
              show pE sg (D + 1) 189 75 [some (.ref x0), some (.ref x1), some (.int x2), some (.int v104), d4] [.int v131] Z132 _
              exact g189_u_j75_ok E hE hD x1 v131 (some (.ref x0)) (some (.int x2)) (some (.int v104)) d4 Z132 v9 Z9 h
          · rw [if_neg hc128] at h
            refine pE_iff (t := 69) rfl rfl hc128 ?_
            refine pE_many 2 (pc1 := 63) (L1 := [some (.ref x0), some (.ref x1), some (.int x2), some (.int v104), d4]) (st1 := [.int 9999, .ref x0]) rfl ?_
            have hk143 : mjRo Z127.2 x0 13 = true := by
              by_cases q9 : mjRo Z127.2 x0 13 = true
              · exact q9
              · rw [if_neg q9] at h; cases h
            rw [if_pos hk143] at h
            cases hq144 : g186_next sg x0 9999 Z127 with
            | none => rw [hq144] at h; cases h
            | some w =>
              obtain ⟨v145, Z146⟩ := w
              rw [hq144, mjBq_some] at h
              refine pE_callV (k2 := 186) (As := [.int 9999]) (rest := []) rfl rfl rfl rfl rfl rfl hk143 (by decide) (by decide) (by omega) (g186_next_ok hq144) ?_
              show pE sg (D + 1) 189 66 [some (.ref x0), some (.ref x1), some (.int x2), some (.int v104), d4] [.int v145] Z146 _
              refine pE_many 1 (pc1 := 75) (L1 := [some (.ref x0), some (.ref x1), some (.int x2), some (.int v104), d4]) (st1 := [.int v145]) rfl ?_
              exact g189_u_j75_ok E hE hD x1 v145 (some (.ref x0)) (some (.int x2)) (some (.int v104)) d4 Z146 v9 Z9 h
    · rw [if_neg hc106] at h
      refine pE_cmf (t := 47) rfl rfl hc106 ?_
      refine pE_many 2 (pc1 := 23) (L1 := [some (.ref x0), some (.ref x1), some (.int x2), some (.int v104), d4]) (st1 := [.ref 1000026, .ref x1]) rfl ?_
      have hk147 : mjRo Z105.2 x1 19 = true := by
        by_cases q9 : mjRo Z105.2 x1 19 = true
        · exact q9
        · rw [if_neg q9] at h; cases h
      rw [if_pos hk147] at h
      cases hq148 : g233_append sg x1 1000026 Z105 with
      | none => rw [hq148] at h; cases h
      | some w =>
        obtain ⟨v149, Z150⟩ := w
        rw [hq148, mjBq_some] at h
        refine pE_callV (k2 := 233) (As := [.ref 1000026]) (rest := []) rfl rfl rfl rfl rfl rfl hk147 (by decide) (by decide) (by omega) (g233_append_ok hq148) ?_
        show pE sg (D + 1) 189 26 [some (.ref x0), some (.ref x1), some (.int x2), some (.int v104), d4] [.ref v149] Z150 _
        refine pE_many 6 (pc1 := 32) (L1 := [some (.ref x0), some (.ref x1), some (.int x2), some (.int v104), d4]) (st1 := [.int (x2 + 1), .ref x1, .ref x0]) rfl ?_
        have hk151 : mjRo Z150.2 x0 13 = true := by
          by_cases q9 : mjRo Z150.2 x0 13 = true
          · exact q9
          · rw [if_neg q9] at h; cases h
        rw [if_pos hk151] at h
        cases hq152 : E x0 x1 (x2 + 1) Z150 with
        | none => rw [hq152] at h; cases h
        | some w =>
          obtain ⟨v153, Z154⟩ := w
          rw [hq152, mjBq_some] at h
          refine pE_callV (k2 := 190) (As := [.ref x1, .int (x2 + 1)]) (rest := []) rfl rfl rfl rfl rfl rfl hk151 (by decide) (by decide) (by omega) (hE x0 x1 (x2 + 1) Z150 _ _ hq152) ?_
          show pE sg (D + 1) 189 35 [some (.ref x0), some (.ref x1), some (.int x2), some (.int v104), d4] [.ref v153] Z154 _
          refine pE_many 3 (pc1 := 40) (L1 := [some (.ref x0), some (.ref x1), some (.int x2), some (.int v104), some (.ref v153)]) (st1 := [.ref 1000027, .ref x1]) rfl ?_
          have hk155 : mjRo Z154.2 x1 19 = true := by
            by_cases q9 : mjRo Z154.2 x1 19 = true
            · exact q9
            · rw [if_neg q9] at h; cases h
          rw [if_pos hk155] at h
          cases hq156 : g233_append sg x1 1000027 Z154 with
          | none => rw [hq156] at h; cases h
          | some w =>
            obtain ⟨v157, Z158⟩ := w
            rw [hq156, mjBq_some] at h
            refine pE_callV (k2 := 233) (As := [.ref 1000027]) (rest := []) rfl rfl rfl rfl rfl rfl hk155 (by decide) (by decide) (by omega) (g233_append_ok hq156) ?_
            show pE sg (D + 1) 189 43 [some (.ref x0), some (.ref x1), some (.int x2), some (.int v104), some (.ref v153)] [.ref v157] Z158 _
            refine pE_many 2 (pc1 := 46) (L1 := [some (.ref x0), some (.ref x1), some (.int x2), some (.int v104), some (.ref v153)]) (st1 := [.ref v153]) rfl ?_
            simp only [Option.some.injEq, Prod.mk.injEq] at h
            obtain ⟨rfl, rfl⟩ := h
            exact pE_ret (r := some (.ref v153)) rfl ⟨rfl, rfl⟩
def g189_u (sg : Nat → Nat) (E : Nat → Nat → Int32 → mjQ → Option (Nat × mjQ)) (a0 : Nat) (p0 : Nat) (p1 : Int32) (Z : mjQ) : Option (Nat × mjQ) :=
  if mjCmp .le p1 2 = true then
    g189_u_j11 sg E a0 p0 p1 a0 5 Z
  else
    g189_u_j11 sg E a0 p0 p1 a0 4 Z
set_option maxRecDepth 100000 in
theorem g189_u_ok {sg : Nat → Nat} {D : Nat} (E : Nat → Nat → Int32 → mjQ → Option (Nat × mjQ)) (hE : ∀ (a0 p0 : Nat) (p1 : Int32) (Z : mjQ) (v9 : Nat) (Z9 : mjQ), E a0 p0 p1 Z = some (v9, Z9) → pE sg D 190 0 (mjEnt [.ref a0, .ref p0, .int p1] (mjML 190)) [] Z (fun r M1 => r = some (.ref v9) ∧ M1 = Z9)) (hD : 20 ≤ D) {a0 : Nat} {p0 : Nat} {p1 : Int32} {Z : mjQ} {v9 : Nat} {Z9 : mjQ} (h : g189_u sg E a0 p0 p1 Z = some (v9, Z9)) : pE sg (D + 1) 189 0 (mjEnt [.ref a0, .ref p0, .int p1] (mjML 189)) [] Z (fun r M1 => r = some (.ref v9) ∧ M1 = Z9) := by
  unfold g189_u at h
  show pE sg (D + 1) 189 0 [some (.ref a0), some (.ref p0), some (.int p1), none, none] [] Z _
  refine pE_many 3 (pc1 := 3) (L1 := [some (.ref a0), some (.ref p0), some (.int p1), none, none]) (st1 := [.int 2, .int p1, .ref a0]) rfl ?_
  by_cases hc101 : mjCmp .le p1 2 = true
  · rw [if_pos hc101] at h
    refine pE_cmt (t := 10) rfl rfl hc101 ?_
    refine pE_many 1 (pc1 := 11) (L1 := [some (.ref a0), some (.ref p0), some (.int p1), none, none]) (st1 := [.int 5, .ref a0]) rfl ?_
    exact g189_u_j11_ok E hE hD a0 p0 p1 a0 5 none none Z v9 Z9 h
  · rw [if_neg hc101] at h
    refine pE_cmf (t := 10) rfl rfl hc101 ?_
    refine pE_many 2 (pc1 := 11) (L1 := [some (.ref a0), some (.ref p0), some (.int p1), none, none]) (st1 := [.int 4, .ref a0]) rfl ?_
    exact g189_u_j11_ok E hE hD a0 p0 p1 a0 4 none none Z v9 Z9 h
def g188_m (sg : Nat → Nat) (E : Nat → Nat → Int32 → mjQ → Option (Nat × mjQ)) (a0 : Nat) (p0 : Nat) (p1 : Int32) (Z : mjQ) : Option (Nat × mjQ) :=
  if mjRo Z.2 a0 13 = true then
  mjBq (g189_u sg E a0 p0 p1 Z) fun v103 Z104 =>
  if mjRo Z104.2 a0 13 = true then
  mjBq (g186_next sg a0 4 Z104) fun v107 Z108 =>
  if mjCmp .le v107 0 = true then
    if mjRo Z108.2 p0 19 = true then
    mjBq (g233_append sg p0 1000025 Z108) fun v112 Z113 =>
    mjBq (qNew sg Z113 (14, 0)) fun v114 Z116 =>
    if mjRo Z116.2 a0 13 = true then
    mjBq (g189_u sg E a0 p0 p1 Z116) fun v119 Z120 =>
    mjBq (g187_init sg v114 1000025 0 (some v103) (some v119) Z120) fun _ Z123 =>
    some (v114, Z123)
    else none
    else none
  else
    some (v103, Z108)
  else none
  else none
set_option maxRecDepth 100000 in
theorem g188_m_ok {sg : Nat → Nat} {D : Nat} (E : Nat → Nat → Int32 → mjQ → Option (Nat × mjQ)) (hE : ∀ (a0 p0 : Nat) (p1 : Int32) (Z : mjQ) (v9 : Nat) (Z9 : mjQ), E a0 p0 p1 Z = some (v9, Z9) → pE sg D 190 0 (mjEnt [.ref a0, .ref p0, .int p1] (mjML 190)) [] Z (fun r M1 => r = some (.ref v9) ∧ M1 = Z9)) (hD : 20 ≤ D) {a0 : Nat} {p0 : Nat} {p1 : Int32} {Z : mjQ} {v9 : Nat} {Z9 : mjQ} (h : g188_m sg E a0 p0 p1 Z = some (v9, Z9)) : pE sg (D + 2) 188 0 (mjEnt [.ref a0, .ref p0, .int p1] (mjML 188)) [] Z (fun r M1 => r = some (.ref v9) ∧ M1 = Z9) := by
  unfold g188_m at h
  show pE sg (D + 2) 188 0 [some (.ref a0), some (.ref p0), some (.int p1), none] [] Z _
  refine pE_many 3 (pc1 := 3) (L1 := [some (.ref a0), some (.ref p0), some (.int p1), none]) (st1 := [.int p1, .ref p0, .ref a0]) rfl ?_
  have hk101 : mjRo Z.2 a0 13 = true := by
    by_cases q9 : mjRo Z.2 a0 13 = true
    · exact q9
    · rw [if_neg q9] at h; cases h
  rw [if_pos hk101] at h
  cases hq102 : g189_u sg E a0 p0 p1 Z with
  | none => rw [hq102] at h; cases h
  | some w =>
    obtain ⟨v103, Z104⟩ := w
    rw [hq102, mjBq_some] at h
    refine pE_callV (k2 := 189) (As := [.ref p0, .int p1]) (rest := []) rfl rfl rfl rfl rfl rfl hk101 (by decide) (by decide) (by omega) (g189_u_ok E hE hD hq102) ?_
    show pE sg (D + 2) 188 6 [some (.ref a0), some (.ref p0), some (.int p1), none] [.ref v103] Z104 _
    refine pE_many 3 (pc1 := 9) (L1 := [some (.ref a0), some (.ref p0), some (.int p1), some (.ref v103)]) (st1 := [.int 4, .ref a0]) rfl ?_
    have hk105 : mjRo Z104.2 a0 13 = true := by
      by_cases q9 : mjRo Z104.2 a0 13 = true
      · exact q9
      · rw [if_neg q9] at h; cases h
    rw [if_pos hk105] at h
    cases hq106 : g186_next sg a0 4 Z104 with
    | none => rw [hq106] at h; cases h
    | some w =>
      obtain ⟨v107, Z108⟩ := w
      rw [hq106, mjBq_some] at h
      refine pE_callV (k2 := 186) (As := [.int 4]) (rest := []) rfl rfl rfl rfl rfl rfl hk105 (by decide) (by decide) (by omega) (g186_next_ok hq106) ?_
      show pE sg (D + 2) 188 12 [some (.ref a0), some (.ref p0), some (.int p1), some (.ref v103)] [.int v107] Z108 _
      by_cases hc109 : mjCmp .le v107 0 = true
      · rw [if_pos hc109] at h
        refine pE_ift (t := 17) rfl rfl hc109 ?_
        refine pE_many 2 (pc1 := 20) (L1 := [some (.ref a0), some (.ref p0), some (.int p1), some (.ref v103)]) (st1 := [.ref 1000025, .ref p0]) rfl ?_
        have hk110 : mjRo Z108.2 p0 19 = true := by
          by_cases q9 : mjRo Z108.2 p0 19 = true
          · exact q9
          · rw [if_neg q9] at h; cases h
        rw [if_pos hk110] at h
        cases hq111 : g233_append sg p0 1000025 Z108 with
        | none => rw [hq111] at h; cases h
        | some w =>
          obtain ⟨v112, Z113⟩ := w
          rw [hq111, mjBq_some] at h
          refine pE_callV (k2 := 233) (As := [.ref 1000025]) (rest := []) rfl rfl rfl rfl rfl rfl hk110 (by decide) (by decide) (by omega) (g233_append_ok hq111) ?_
          show pE sg (D + 2) 188 23 [some (.ref a0), some (.ref p0), some (.int p1), some (.ref v103)] [.ref v112] Z113 _
          refine pE_many 1 (pc1 := 24) (L1 := [some (.ref a0), some (.ref p0), some (.int p1), some (.ref v103)]) (st1 := []) rfl ?_
          cases hq115 : qNew sg Z113 (14, 0) with
          | none => rw [hq115] at h; cases h
          | some w =>
            obtain ⟨v114, Z116⟩ := w
            rw [hq115, mjBq_some] at h
            refine pE_newO rfl rfl (by decide) hq115 ?_
            refine pE_many 7 (pc1 := 35) (L1 := [some (.ref a0), some (.ref p0), some (.int p1), some (.ref v103)]) (st1 := [.int p1, .ref p0, .ref a0, .ref v103, .int 0, .ref 1000025, .ref v114, .ref v114]) rfl ?_
            have hk117 : mjRo Z116.2 a0 13 = true := by
              by_cases q9 : mjRo Z116.2 a0 13 = true
              · exact q9
              · rw [if_neg q9] at h; cases h
            rw [if_pos hk117] at h
            cases hq118 : g189_u sg E a0 p0 p1 Z116 with
            | none => rw [hq118] at h; cases h
            | some w =>
              obtain ⟨v119, Z120⟩ := w
              rw [hq118, mjBq_some] at h
              refine pE_callV (k2 := 189) (As := [.ref p0, .int p1]) (rest := [.ref v103, .int 0, .ref 1000025, .ref v114, .ref v114]) rfl rfl rfl rfl rfl rfl hk117 (by decide) (by decide) (by omega) (g189_u_ok E hE hD hq118) ?_
              show pE sg (D + 2) 188 38 [some (.ref a0), some (.ref p0), some (.int p1), some (.ref v103)] [.ref v119, .ref v103, .int 0, .ref 1000025, .ref v114, .ref v114] Z120 _
              cases hq121 : g187_init sg v114 1000025 0 (some v103) (some v119) Z120 with
              | none => rw [hq121] at h; cases h
              | some w =>
                obtain ⟨v122, Z123⟩ := w
                rw [hq121, mjBq_some] at h
                refine pE_call (k2 := 187) (As := [.ref v114, .ref 1000025, .int 0, .ref v103, .ref v119]) (rest := [.ref v114]) (w := 3) rfl (by decide) (by omega) (g187_init_ok hq121) ?_
                show pE sg (D + 2) 188 41 [some (.ref a0), some (.ref p0), some (.int p1), some (.ref v103)] [.ref v114] Z123 _
                simp only [Option.some.injEq, Prod.mk.injEq] at h
                obtain ⟨rfl, rfl⟩ := h
                exact pE_ret (r := some (.ref v114)) rfl ⟨rfl, rfl⟩
      · rw [if_neg hc109] at h
        refine pE_iff (t := 17) rfl rfl hc109 ?_
        refine pE_many 1 (pc1 := 16) (L1 := [some (.ref a0), some (.ref p0), some (.int p1), some (.ref v103)]) (st1 := [.ref v103]) rfl ?_
        simp only [Option.some.injEq, Prod.mk.injEq] at h
        obtain ⟨rfl, rfl⟩ := h
        exact pE_ret (r := some (.ref v103)) rfl ⟨rfl, rfl⟩
def g190_e_j45 (sg : Nat → Nat) (E : Nat → Nat → Int32 → mjQ → Option (Nat × mjQ)) (x0 : Nat) (x1 : Nat) (x2 : Int32) (x3 : Nat) (x4 : Int32) (s0 : Nat) (s1 : Nat) (Z : mjQ) : Option (Nat × mjQ) :=
  if mjRo Z.2 s0 19 = true then
  mjBq (g233_append sg s0 s1 Z) fun v118 Z119 =>
  mjBq (qNew sg Z119 (14, 0)) fun v120 Z122 =>
  if mjCmp .eq x4 0 = true then
    if mjRo Z122.2 x0 13 = true then
    mjBq (g188_m sg E x0 x1 x2 Z122) fun v126 Z127 =>
    mjBq (g187_init sg v120 1000024 0 (some x3) (some v126) Z127) fun _ Z130 =>
    some (v120, Z130)
    else none
  else
    if mjRo Z122.2 x0 13 = true then
    mjBq (g188_m sg E x0 x1 x2 Z122) fun v133 Z134 =>
    mjBq (g187_init sg v120 1000022 0 (some x3) (some v133) Z134) fun _ Z137 =>
    some (v120, Z137)
    else none
  else none
set_option maxRecDepth 100000 in
theorem g190_e_j45_ok {sg : Nat → Nat} {D : Nat} (E : Nat → Nat → Int32 → mjQ → Option (Nat × mjQ)) (hE : ∀ (a0 p0 : Nat) (p1 : Int32) (Z : mjQ) (v9 : Nat) (Z9 : mjQ), E a0 p0 p1 Z = some (v9, Z9) → pE sg D 190 0 (mjEnt [.ref a0, .ref p0, .int p1] (mjML 190)) [] Z (fun r M1 => r = some (.ref v9) ∧ M1 = Z9)) (hD : 20 ≤ D) (x0 : Nat) (x1 : Nat) (x2 : Int32) (x3 : Nat) (x4 : Int32) (s0 : Nat) (s1 : Nat) (Z : mjQ) (v9 : Nat) (Z9 : mjQ) (h : g190_e_j45 sg E x0 x1 x2 x3 x4 s0 s1 Z = some (v9, Z9)) : pE sg (D + 3) 190 45 [some (.ref x0), some (.ref x1), some (.int x2), some (.ref x3), some (.int x4)] [.ref s1, .ref s0] Z (fun r M1 => r = some (.ref v9) ∧ M1 = Z9) := by
  unfold g190_e_j45 at h
  have hk116 : mjRo Z.2 s0 19 = true := by
    by_cases q9 : mjRo Z.2 s0 19 = true
    · exact q9
    · rw [if_neg q9] at h; cases h
  rw [if_pos hk116] at h
  cases hq117 : g233_append sg s0 s1 Z with
  | none => rw [hq117] at h; cases h
  | some w =>
    obtain ⟨v118, Z119⟩ := w
    rw [hq117, mjBq_some] at h
    refine pE_callV (k2 := 233) (As := [.ref s1]) (rest := []) rfl rfl rfl rfl rfl rfl hk116 (by decide) (by decide) (by omega) (g233_append_ok hq117) ?_
    show pE sg (D + 3) 190 48 [some (.ref x0), some (.ref x1), some (.int x2), some (.ref x3), some (.int x4)] [.ref v118] Z119 _
    refine pE_many 1 (pc1 := 49) (L1 := [some (.ref x0), some (.ref x1), some (.int x2), some (.ref x3), some (.int x4)]) (st1 := []) rfl ?_
    cases hq121 : qNew sg Z119 (14, 0) with
    | none => rw [hq121] at h; cases h
    | some w =>
      obtain ⟨v120, Z122⟩ := w
      rw [hq121, mjBq_some] at h
      refine pE_newO rfl rfl (by decide) hq121 ?_
      refine pE_many 2 (pc1 := 55) (L1 := [some (.ref x0), some (.ref x1), some (.int x2), some (.ref x3), some (.int x4)]) (st1 := [.int x4, .ref v120, .ref v120]) rfl ?_
      by_cases hc123 : mjCmp .eq x4 0 = true
      · rw [if_pos hc123] at h
        refine pE_ift (t := 63) rfl rfl hc123 ?_
        refine pE_many 6 (pc1 := 70) (L1 := [some (.ref x0), some (.ref x1), some (.int x2), some (.ref x3), some (.int x4)]) (st1 := [.int x2, .ref x1, .ref x0, .ref x3, .int 0, .ref 1000024, .ref v120, .ref v120]) rfl ?_
        have hk124 : mjRo Z122.2 x0 13 = true := by
          by_cases q9 : mjRo Z122.2 x0 13 = true
          · exact q9
          · rw [if_neg q9] at h; cases h
        rw [if_pos hk124] at h
        cases hq125 : g188_m sg E x0 x1 x2 Z122 with
        | none => rw [hq125] at h; cases h
        | some w =>
          obtain ⟨v126, Z127⟩ := w
          rw [hq125, mjBq_some] at h
          refine pE_callV (k2 := 188) (As := [.ref x1, .int x2]) (rest := [.ref x3, .int 0, .ref 1000024, .ref v120, .ref v120]) rfl rfl rfl rfl rfl rfl hk124 (by decide) (by decide) (by omega) (g188_m_ok E hE hD hq125) ?_
          show pE sg (D + 3) 190 73 [some (.ref x0), some (.ref x1), some (.int x2), some (.ref x3), some (.int x4)] [.ref v126, .ref x3, .int 0, .ref 1000024, .ref v120, .ref v120] Z127 _
          cases hq128 : g187_init sg v120 1000024 0 (some x3) (some v126) Z127 with
          | none => rw [hq128] at h; cases h
          | some w =>
            obtain ⟨v129, Z130⟩ := w
            rw [hq128, mjBq_some] at h
            refine pE_call (k2 := 187) (As := [.ref v120, .ref 1000024, .int 0, .ref x3, .ref v126]) (rest := [.ref v120]) (w := 3) rfl (by decide) (by omega) (g187_init_ok hq128) ?_
            show pE sg (D + 3) 190 76 [some (.ref x0), some (.ref x1), some (.int x2), some (.ref x3), some (.int x4)] [.ref v120] Z130 _
            simp only [Option.some.injEq, Prod.mk.injEq] at h
            obtain ⟨rfl, rfl⟩ := h
            exact pE_ret (r := some (.ref v120)) rfl ⟨rfl, rfl⟩
      · rw [if_neg hc123] at h
        refine pE_iff (t := 63) rfl rfl hc123 ?_
        refine pE_many 7 (pc1 := 70) (L1 := [some (.ref x0), some (.ref x1), some (.int x2), some (.ref x3), some (.int x4)]) (st1 := [.int x2, .ref x1, .ref x0, .ref x3, .int 0, .ref 1000022, .ref v120, .ref v120]) rfl ?_
        have hk131 : mjRo Z122.2 x0 13 = true := by
          by_cases q9 : mjRo Z122.2 x0 13 = true
          · exact q9
          · rw [if_neg q9] at h; cases h
        rw [if_pos hk131] at h
        cases hq132 : g188_m sg E x0 x1 x2 Z122 with
        | none => rw [hq132] at h; cases h
        | some w =>
          obtain ⟨v133, Z134⟩ := w
          rw [hq132, mjBq_some] at h
          refine pE_callV (k2 := 188) (As := [.ref x1, .int x2]) (rest := [.ref x3, .int 0, .ref 1000022, .ref v120, .ref v120]) rfl rfl rfl rfl rfl rfl hk131 (by decide) (by decide) (by omega) (g188_m_ok E hE hD hq132) ?_
          show pE sg (D + 3) 190 73 [some (.ref x0), some (.ref x1), some (.int x2), some (.ref x3), some (.int x4)] [.ref v133, .ref x3, .int 0, .ref 1000022, .ref v120, .ref v120] Z134 _
          cases hq135 : g187_init sg v120 1000022 0 (some x3) (some v133) Z134 with
          | none => rw [hq135] at h; cases h
          | some w =>
            obtain ⟨v136, Z137⟩ := w
            rw [hq135, mjBq_some] at h
            refine pE_call (k2 := 187) (As := [.ref v120, .ref 1000022, .int 0, .ref x3, .ref v133]) (rest := [.ref v120]) (w := 3) rfl (by decide) (by omega) (g187_init_ok hq135) ?_
            show pE sg (D + 3) 190 76 [some (.ref x0), some (.ref x1), some (.int x2), some (.ref x3), some (.int x4)] [.ref v120] Z137 _
            simp only [Option.some.injEq, Prod.mk.injEq] at h
            obtain ⟨rfl, rfl⟩ := h
            exact pE_ret (r := some (.ref v120)) rfl ⟨rfl, rfl⟩
def g190_e_j30 (sg : Nat → Nat) (E : Nat → Nat → Int32 → mjQ → Option (Nat × mjQ)) (x0 : Nat) (x1 : Nat) (x2 : Int32) (x3 : Nat) (s0 : Int32) (Z : mjQ) : Option (Nat × mjQ) :=
  if mjCmp .eq s0 0 = true then
    g190_e_j45 sg E x0 x1 x2 x3 s0 x1 1000023 Z
  else
    g190_e_j45 sg E x0 x1 x2 x3 s0 x1 1000022 Z
set_option maxRecDepth 100000 in
theorem g190_e_j30_ok {sg : Nat → Nat} {D : Nat} (E : Nat → Nat → Int32 → mjQ → Option (Nat × mjQ)) (hE : ∀ (a0 p0 : Nat) (p1 : Int32) (Z : mjQ) (v9 : Nat) (Z9 : mjQ), E a0 p0 p1 Z = some (v9, Z9) → pE sg D 190 0 (mjEnt [.ref a0, .ref p0, .int p1] (mjML 190)) [] Z (fun r M1 => r = some (.ref v9) ∧ M1 = Z9)) (hD : 20 ≤ D) (x0 : Nat) (x1 : Nat) (x2 : Int32) (x3 : Nat) (s0 : Int32) (d4 : Option Value) (Z : mjQ) (v9 : Nat) (Z9 : mjQ) (h : g190_e_j30 sg E x0 x1 x2 x3 s0 Z = some (v9, Z9)) : pE sg (D + 3) 190 30 [some (.ref x0), some (.ref x1), some (.int x2), some (.ref x3), d4] [.int s0] Z (fun r M1 => r = some (.ref v9) ∧ M1 = Z9) := by
  unfold g190_e_j30 at h
  refine pE_many 3 (pc1 := 35) (L1 := [some (.ref x0), some (.ref x1), some (.int x2), some (.ref x3), some (.int s0)]) (st1 := [.int s0, .ref x1]) rfl ?_
  by_cases hc115 : mjCmp .eq s0 0 = true
  · rw [if_pos hc115] at h
    refine pE_ift (t := 43) rfl rfl hc115 ?_
    refine pE_many 1 (pc1 := 45) (L1 := [some (.ref x0), some (.ref x1), some (.int x2), some (.ref x3), some (.int s0)]) (st1 := [.ref 1000023, .ref x1]) rfl ?_
    exact g190_e_j45_ok E hE hD x0 x1 x2 x3 s0 x1 1000023 Z v9 Z9 h
  · rw [if_neg hc115] at h
    refine pE_iff (t := 43) rfl rfl hc115 ?_
    refine pE_many 2 (pc1 := 45) (L1 := [some (.ref x0), some (.ref x1), some (.int x2), some (.ref x3), some (.int s0)]) (st1 := [.ref 1000022, .ref x1]) rfl ?_
    exact g190_e_j45_ok E hE hD x0 x1 x2 x3 s0 x1 1000022 Z v9 Z9 h
def g190_e_b (sg : Nat → Nat) (E : Nat → Nat → Int32 → mjQ → Option (Nat × mjQ)) (a0 : Nat) (p0 : Nat) (p1 : Int32) (Z : mjQ) : Option (Nat × mjQ) :=
  if mjRo Z.2 a0 13 = true then
  mjBq (g188_m sg E a0 p0 p1 Z) fun v103 Z104 =>
  if mjRo Z104.2 a0 13 = true then
  mjBq (g186_next sg a0 3 Z104) fun v107 Z108 =>
  if mjCmp .le v107 0 = true then
    if mjRo Z108.2 a0 13 = true then
    mjBq (g186_next sg a0 2 Z108) fun v112 Z113 =>
    if mjCmp .ne v112 0 = true then
      g190_e_j30 sg E a0 p0 p1 v103 0 Z113
    else
      g190_e_j30 sg E a0 p0 p1 v103 1 Z113
    else none
  else
    some (v103, Z108)
  else none
  else none
set_option maxRecDepth 100000 in
theorem g190_e_b_ok {sg : Nat → Nat} {D : Nat} (E : Nat → Nat → Int32 → mjQ → Option (Nat × mjQ)) (hE : ∀ (a0 p0 : Nat) (p1 : Int32) (Z : mjQ) (v9 : Nat) (Z9 : mjQ), E a0 p0 p1 Z = some (v9, Z9) → pE sg D 190 0 (mjEnt [.ref a0, .ref p0, .int p1] (mjML 190)) [] Z (fun r M1 => r = some (.ref v9) ∧ M1 = Z9)) (hD : 20 ≤ D) {a0 : Nat} {p0 : Nat} {p1 : Int32} {Z : mjQ} {v9 : Nat} {Z9 : mjQ} (h : g190_e_b sg E a0 p0 p1 Z = some (v9, Z9)) : pE sg (D + 3) 190 0 (mjEnt [.ref a0, .ref p0, .int p1] (mjML 190)) [] Z (fun r M1 => r = some (.ref v9) ∧ M1 = Z9) := by
  unfold g190_e_b at h
  show pE sg (D + 3) 190 0 [some (.ref a0), some (.ref p0), some (.int p1), none, none] [] Z _
  refine pE_many 3 (pc1 := 3) (L1 := [some (.ref a0), some (.ref p0), some (.int p1), none, none]) (st1 := [.int p1, .ref p0, .ref a0]) rfl ?_
  have hk101 : mjRo Z.2 a0 13 = true := by
    by_cases q9 : mjRo Z.2 a0 13 = true
    · exact q9
    · rw [if_neg q9] at h; cases h
  rw [if_pos hk101] at h
  cases hq102 : g188_m sg E a0 p0 p1 Z with
  | none => rw [hq102] at h; cases h
  | some w =>
    obtain ⟨v103, Z104⟩ := w
    rw [hq102, mjBq_some] at h
    refine pE_callV (k2 := 188) (As := [.ref p0, .int p1]) (rest := []) rfl rfl rfl rfl rfl rfl hk101 (by decide) (by decide) (by omega) (g188_m_ok E hE hD hq102) ?_
    show pE sg (D + 3) 190 6 [some (.ref a0), some (.ref p0), some (.int p1), none, none] [.ref v103] Z104 _
    refine pE_many 3 (pc1 := 9) (L1 := [some (.ref a0), some (.ref p0), some (.int p1), some (.ref v103), none]) (st1 := [.int 3, .ref a0]) rfl ?_
    have hk105 : mjRo Z104.2 a0 13 = true := by
      by_cases q9 : mjRo Z104.2 a0 13 = true
      · exact q9
      · rw [if_neg q9] at h; cases h
    rw [if_pos hk105] at h
    cases hq106 : g186_next sg a0 3 Z104 with
    | none => rw [hq106] at h; cases h
    | some w =>
      obtain ⟨v107, Z108⟩ := w
      rw [hq106, mjBq_some] at h
      refine pE_callV (k2 := 186) (As := [.int 3]) (rest := []) rfl rfl rfl rfl rfl rfl hk105 (by decide) (by decide) (by omega) (g186_next_ok hq106) ?_
      show pE sg (D + 3) 190 12 [some (.ref a0), some (.ref p0), some (.int p1), some (.ref v103), none] [.int v107] Z108 _
      by_cases hc109 : mjCmp .le v107 0 = true
      · rw [if_pos hc109] at h
        refine pE_ift (t := 17) rfl rfl hc109 ?_
        refine pE_many 2 (pc1 := 19) (L1 := [some (.ref a0), some (.ref p0), some (.int p1), some (.ref v103), none]) (st1 := [.int 2, .ref a0]) rfl ?_
        have hk110 : mjRo Z108.2 a0 13 = true := by
          by_cases q9 : mjRo Z108.2 a0 13 = true
          · exact q9
          · rw [if_neg q9] at h; cases h
        rw [if_pos hk110] at h
        cases hq111 : g186_next sg a0 2 Z108 with
        | none => rw [hq111] at h; cases h
        | some w =>
          obtain ⟨v112, Z113⟩ := w
          rw [hq111, mjBq_some] at h
          refine pE_callV (k2 := 186) (As := [.int 2]) (rest := []) rfl rfl rfl rfl rfl rfl hk110 (by decide) (by decide) (by omega) (g186_next_ok hq111) ?_
          show pE sg (D + 3) 190 22 [some (.ref a0), some (.ref p0), some (.int p1), some (.ref v103), none] [.int v112] Z113 _
          by_cases hc114 : mjCmp .ne v112 0 = true
          · rw [if_pos hc114] at h
            refine pE_ift (t := 29) rfl rfl hc114 ?_
            refine pE_many 1 (pc1 := 30) (L1 := [some (.ref a0), some (.ref p0), some (.int p1), some (.ref v103), none]) (st1 := [.int 0]) rfl ?_
            exact g190_e_j30_ok E hE hD a0 p0 p1 v103 0 none Z113 v9 Z9 h
          · rw [if_neg hc114] at h
            refine pE_iff (t := 29) rfl rfl hc114 ?_
            refine pE_many 2 (pc1 := 30) (L1 := [some (.ref a0), some (.ref p0), some (.int p1), some (.ref v103), none]) (st1 := [.int 1]) rfl ?_
            exact g190_e_j30_ok E hE hD a0 p0 p1 v103 1 none Z113 v9 Z9 h
      · rw [if_neg hc109] at h
        refine pE_iff (t := 17) rfl rfl hc109 ?_
        refine pE_many 1 (pc1 := 16) (L1 := [some (.ref a0), some (.ref p0), some (.int p1), some (.ref v103), none]) (st1 := [.ref v103]) rfl ?_
        simp only [Option.some.injEq, Prod.mk.injEq] at h
        obtain ⟨rfl, rfl⟩ := h
        exact pE_ret (r := some (.ref v103)) rfl ⟨rfl, rfl⟩
def g190_e_n (sg : Nat → Nat) : Nat → Nat → Nat → Int32 → mjQ → Option (Nat × mjQ)
  | 0, _, _, _, _ => none
  | j + 1, a0, p0, p1, Z => g190_e_b sg (g190_e_n sg j) a0 p0 p1 Z
theorem g190_e_n_ok {sg : Nat → Nat} : ∀ (j a0 p0 : Nat) (p1 : Int32) (Z : mjQ) (v9 : Nat) (Z9 : mjQ), g190_e_n sg j a0 p0 p1 Z = some (v9, Z9) → pE sg (20 + 3 * j) 190 0 (mjEnt [.ref a0, .ref p0, .int p1] (mjML 190)) [] Z (fun r M1 => r = some (.ref v9) ∧ M1 = Z9)
  | 0, a0, p0, p1, Z, v9, Z9, h => by rw [g190_e_n] at h; cases h
  | j + 1, a0, p0, p1, Z, v9, Z9, h => g190_e_b_ok (D := 20 + 3 * j) (g190_e_n sg j) (g190_e_n_ok j) (by omega) h
def g190_e (sg : Nat → Nat) (a0 p0 : Nat) (p1 : Int32) (Z : mjQ) : Option (Nat × mjQ) := g190_e_n sg 8 a0 p0 p1 Z
theorem g190_e_ok {sg : Nat → Nat} {a0 p0 : Nat} {p1 : Int32} {Z : mjQ} {v9 : Nat} {Z9 : mjQ} (h : g190_e sg a0 p0 p1 Z = some (v9, Z9)) : pE sg 44 190 0 (mjEnt [.ref a0, .ref p0, .int p1] (mjML 190)) [] Z (fun r M1 => r = some (.ref v9) ∧ M1 = Z9) := g190_e_n_ok 8 a0 p0 p1 Z v9 Z9 h
def g193_a_h14 (sg : Nat → Nat) (E : Nat → Nat → Int32 → mjQ → Option (Nat × mjQ)) : Nat → Nat → Nat → Int32 → Nat → Int32 → mjQ → Option (Nat × mjQ)
  | 0, _, _, _, _, _, _ => none
  | n + 1, x0, x1, x2, x3, x4, Z =>
    if mjCmp .le x4 1 = true then
      some (x3, Z)
    else
      mjBp (qI Z.2 x0 13 2) fun v110 =>
      if mjCmp .le v110 0 = true then
        some (x3, Z)
      else
        if mjRo Z.2 x1 19 = true then
        mjBq (g233_append sg x1 1000012 Z) fun v115 Z116 =>
        mjBq (qNew sg Z116 (14, 0)) fun v117 Z119 =>
        if mjRo Z119.2 x0 13 = true then
        mjBq (E x0 x1 x2 Z119) fun v122 Z123 =>
        mjBq (g187_init sg v117 1000013 0 (some x3) (some v122) Z123) fun _ Z126 =>
        g193_a_h14 sg E n x0 x1 x2 v117 (x4 + (-1)) Z126
        else none
        else none
set_option maxRecDepth 100000 in
theorem g193_a_h14_ok {sg : Nat → Nat} {D : Nat} (E : Nat → Nat → Int32 → mjQ → Option (Nat × mjQ)) (hE : ∀ (a0 p0 : Nat) (p1 : Int32) (Z : mjQ) (v9 : Nat) (Z9 : mjQ), E a0 p0 p1 Z = some (v9, Z9) → pE sg D 191 0 (mjEnt [.ref a0, .ref p0, .int p1] (mjML 191)) [] Z (fun r M1 => r = some (.ref v9) ∧ M1 = Z9)) (hD : 44 ≤ D) : ∀ (n : Nat) (x0 : Nat) (x1 : Nat) (x2 : Int32) (x3 : Nat) (x4 : Int32) (Z : mjQ) (v9 : Nat) (Z9 : mjQ), g193_a_h14 sg E n x0 x1 x2 x3 x4 Z = some (v9, Z9) → pE sg (D + 1) 193 14 [some (.ref x0), some (.ref x1), some (.int x2), some (.ref x3), some (.int x4)] [] Z (fun r M1 => r = some (.ref v9) ∧ M1 = Z9)
  | 0, x0, x1, x2, x3, x4, Z, v9, Z9, h => by rw [g193_a_h14] at h; cases h
  | n + 1, x0, x1, x2, x3, x4, Z, v9, Z9, h => by
      rw [g193_a_h14] at h
      refine pE_many 2 (pc1 := 17) (L1 := [some (.ref x0), some (.ref x1), some (.int x2), some (.ref x3), some (.int x4)]) (st1 := [.int 1, .int x4]) rfl ?_
      by_cases hc109 : mjCmp .le x4 1 = true
      · rw [if_pos hc109] at h
        refine pE_cmt (t := 58) rfl rfl hc109 ?_
        refine pE_many 1 (pc1 := 59) (L1 := [some (.ref x0), some (.ref x1), some (.int x2), some (.ref x3), some (.int x4)]) (st1 := [.ref x3]) rfl ?_
        simp only [Option.some.injEq, Prod.mk.injEq] at h
        obtain ⟨rfl, rfl⟩ := h
        exact pE_ret (r := some (.ref x3)) rfl ⟨rfl, rfl⟩
      · rw [if_neg hc109] at h
        refine pE_cmf (t := 58) rfl rfl hc109 ?_
        refine pE_many 1 (pc1 := 21) (L1 := [some (.ref x0), some (.ref x1), some (.int x2), some (.ref x3), some (.int x4)]) (st1 := [.ref x0]) rfl ?_
        cases hq111 : qI Z.2 x0 13 2 with
        | none => rw [hq111] at h; cases h
        | some v110 =>
          rw [hq111, mjBp_some] at h
          refine pE_gI rfl rfl hq111 ?_
          by_cases hc112 : mjCmp .le v110 0 = true
          · rw [if_pos hc112] at h
            refine pE_ift (t := 58) rfl rfl hc112 ?_
            refine pE_many 1 (pc1 := 59) (L1 := [some (.ref x0), some (.ref x1), some (.int x2), some (.ref x3), some (.int x4)]) (st1 := [.ref x3]) rfl ?_
            simp only [Option.some.injEq, Prod.mk.injEq] at h
            obtain ⟨rfl, rfl⟩ := h
            exact pE_ret (r := some (.ref x3)) rfl ⟨rfl, rfl⟩
          · rw [if_neg hc112] at h
            refine pE_iff (t := 58) rfl rfl hc112 ?_
            refine pE_many 2 (pc1 := 30) (L1 := [some (.ref x0), some (.ref x1), some (.int x2), some (.ref x3), some (.int x4)]) (st1 := [.ref 1000012, .ref x1]) rfl ?_
            have hk113 : mjRo Z.2 x1 19 = true := by
              by_cases q9 : mjRo Z.2 x1 19 = true
              · exact q9
              · rw [if_neg q9] at h; cases h
            rw [if_pos hk113] at h
            cases hq114 : g233_append sg x1 1000012 Z with
            | none => rw [hq114] at h; cases h
            | some w =>
              obtain ⟨v115, Z116⟩ := w
              rw [hq114, mjBq_some] at h
              refine pE_callV (k2 := 233) (As := [.ref 1000012]) (rest := []) rfl rfl rfl rfl rfl rfl hk113 (by decide) (by decide) (by omega) (g233_append_ok hq114) ?_
              show pE sg (D + 1) 193 33 [some (.ref x0), some (.ref x1), some (.int x2), some (.ref x3), some (.int x4)] [.ref v115] Z116 _
              refine pE_many 1 (pc1 := 34) (L1 := [some (.ref x0), some (.ref x1), some (.int x2), some (.ref x3), some (.int x4)]) (st1 := []) rfl ?_
              cases hq118 : qNew sg Z116 (14, 0) with
              | none => rw [hq118] at h; cases h
              | some w =>
                obtain ⟨v117, Z119⟩ := w
                rw [hq118, mjBq_some] at h
                refine pE_newO rfl rfl (by decide) hq118 ?_
                refine pE_many 7 (pc1 := 45) (L1 := [some (.ref x0), some (.ref x1), some (.int x2), some (.ref x3), some (.int x4)]) (st1 := [.int x2, .ref x1, .ref x0, .ref x3, .int 0, .ref 1000013, .ref v117, .ref v117]) rfl ?_
                have hk120 : mjRo Z119.2 x0 13 = true := by
                  by_cases q9 : mjRo Z119.2 x0 13 = true
                  · exact q9
                  · rw [if_neg q9] at h; cases h
                rw [if_pos hk120] at h
                cases hq121 : E x0 x1 x2 Z119 with
                | none => rw [hq121] at h; cases h
                | some w =>
                  obtain ⟨v122, Z123⟩ := w
                  rw [hq121, mjBq_some] at h
                  refine pE_callV (k2 := 191) (As := [.ref x1, .int x2]) (rest := [.ref x3, .int 0, .ref 1000013, .ref v117, .ref v117]) rfl rfl rfl rfl rfl rfl hk120 (by decide) (by decide) (by omega) (hE x0 x1 x2 Z119 _ _ hq121) ?_
                  show pE sg (D + 1) 193 48 [some (.ref x0), some (.ref x1), some (.int x2), some (.ref x3), some (.int x4)] [.ref v122, .ref x3, .int 0, .ref 1000013, .ref v117, .ref v117] Z123 _
                  cases hq124 : g187_init sg v117 1000013 0 (some x3) (some v122) Z123 with
                  | none => rw [hq124] at h; cases h
                  | some w =>
                    obtain ⟨v125, Z126⟩ := w
                    rw [hq124, mjBq_some] at h
                    refine pE_call (k2 := 187) (As := [.ref v117, .ref 1000013, .int 0, .ref x3, .ref v122]) (rest := [.ref v117]) (w := 3) rfl (by decide) (by omega) (g187_init_ok hq124) ?_
                    show pE sg (D + 1) 193 51 [some (.ref x0), some (.ref x1), some (.int x2), some (.ref x3), some (.int x4)] [.ref v117] Z126 _
                    refine pE_many 3 (pc1 := 14) (L1 := [some (.ref x0), some (.ref x1), some (.int x2), some (.ref v117), some (.int (x4 + (-1)))]) (st1 := []) rfl ?_
                    exact g193_a_h14_ok E hE hD n x0 x1 x2 v117 (x4 + (-1)) Z126 v9 Z9 h
def g193_a (sg : Nat → Nat) (E : Nat → Nat → Int32 → mjQ → Option (Nat × mjQ)) (a0 : Nat) (p0 : Nat) (p1 : Int32) (Z : mjQ) : Option (Nat × mjQ) :=
  if mjRo Z.2 a0 13 = true then
  mjBq (E a0 p0 p1 Z) fun v103 Z104 =>
  if mjRo Z104.2 a0 13 = true then
  mjBq (g186_next sg a0 3 Z104) fun v107 Z108 =>
  g193_a_h14 sg E mjF a0 p0 p1 v103 v107 Z108
  else none
  else none
set_option maxRecDepth 100000 in
theorem g193_a_ok {sg : Nat → Nat} {D : Nat} (E : Nat → Nat → Int32 → mjQ → Option (Nat × mjQ)) (hE : ∀ (a0 p0 : Nat) (p1 : Int32) (Z : mjQ) (v9 : Nat) (Z9 : mjQ), E a0 p0 p1 Z = some (v9, Z9) → pE sg D 191 0 (mjEnt [.ref a0, .ref p0, .int p1] (mjML 191)) [] Z (fun r M1 => r = some (.ref v9) ∧ M1 = Z9)) (hD : 44 ≤ D) {a0 : Nat} {p0 : Nat} {p1 : Int32} {Z : mjQ} {v9 : Nat} {Z9 : mjQ} (h : g193_a sg E a0 p0 p1 Z = some (v9, Z9)) : pE sg (D + 1) 193 0 (mjEnt [.ref a0, .ref p0, .int p1] (mjML 193)) [] Z (fun r M1 => r = some (.ref v9) ∧ M1 = Z9) := by
  unfold g193_a at h
  show pE sg (D + 1) 193 0 [some (.ref a0), some (.ref p0), some (.int p1), none, none] [] Z _
  refine pE_many 3 (pc1 := 3) (L1 := [some (.ref a0), some (.ref p0), some (.int p1), none, none]) (st1 := [.int p1, .ref p0, .ref a0]) rfl ?_
  have hk101 : mjRo Z.2 a0 13 = true := by
    by_cases q9 : mjRo Z.2 a0 13 = true
    · exact q9
    · rw [if_neg q9] at h; cases h
  rw [if_pos hk101] at h
  cases hq102 : E a0 p0 p1 Z with
  | none => rw [hq102] at h; cases h
  | some w =>
    obtain ⟨v103, Z104⟩ := w
    rw [hq102, mjBq_some] at h
    refine pE_callV (k2 := 191) (As := [.ref p0, .int p1]) (rest := []) rfl rfl rfl rfl rfl rfl hk101 (by decide) (by decide) (by omega) (hE a0 p0 p1 Z _ _ hq102) ?_
    show pE sg (D + 1) 193 6 [some (.ref a0), some (.ref p0), some (.int p1), none, none] [.ref v103] Z104 _
    refine pE_many 3 (pc1 := 9) (L1 := [some (.ref a0), some (.ref p0), some (.int p1), some (.ref v103), none]) (st1 := [.int 3, .ref a0]) rfl ?_
    have hk105 : mjRo Z104.2 a0 13 = true := by
      by_cases q9 : mjRo Z104.2 a0 13 = true
      · exact q9
      · rw [if_neg q9] at h; cases h
    rw [if_pos hk105] at h
    cases hq106 : g186_next sg a0 3 Z104 with
    | none => rw [hq106] at h; cases h
    | some w =>
      obtain ⟨v107, Z108⟩ := w
      rw [hq106, mjBq_some] at h
      refine pE_callV (k2 := 186) (As := [.int 3]) (rest := []) rfl rfl rfl rfl rfl rfl hk105 (by decide) (by decide) (by omega) (g186_next_ok hq106) ?_
      show pE sg (D + 1) 193 12 [some (.ref a0), some (.ref p0), some (.int p1), some (.ref v103), none] [.int v107] Z108 _
      refine pE_many 1 (pc1 := 14) (L1 := [some (.ref a0), some (.ref p0), some (.int p1), some (.ref v103), some (.int v107)]) (st1 := []) rfl ?_
      exact g193_a_h14_ok E hE hD mjF a0 p0 p1 v103 v107 Z108 v9 Z9 h
def g192_t_h14 (sg : Nat → Nat) (E : Nat → Nat → Int32 → mjQ → Option (Nat × mjQ)) : Nat → Nat → Nat → Int32 → Nat → Int32 → mjQ → Option (Nat × mjQ)
  | 0, _, _, _, _, _, _ => none
  | n + 1, x0, x1, x2, x3, x4, Z =>
    if mjCmp .le x4 1 = true then
      some (x3, Z)
    else
      mjBp (qI Z.2 x0 13 2) fun v110 =>
      if mjCmp .le v110 0 = true then
        some (x3, Z)
      else
        if mjRo Z.2 x1 19 = true then
        mjBq (g233_append sg x1 1000010 Z) fun v115 Z116 =>
        mjBq (qNew sg Z116 (14, 0)) fun v117 Z119 =>
        if mjRo Z119.2 x0 13 = true then
        mjBq (g193_a sg E x0 x1 x2 Z119) fun v122 Z123 =>
        mjBq (g187_init sg v117 1000011 0 (some x3) (some v122) Z123) fun _ Z126 =>
        g192_t_h14 sg E n x0 x1 x2 v117 (x4 + (-1)) Z126
        else none
        else none
set_option maxRecDepth 100000 in
theorem g192_t_h14_ok {sg : Nat → Nat} {D : Nat} (E : Nat → Nat → Int32 → mjQ → Option (Nat × mjQ)) (hE : ∀ (a0 p0 : Nat) (p1 : Int32) (Z : mjQ) (v9 : Nat) (Z9 : mjQ), E a0 p0 p1 Z = some (v9, Z9) → pE sg D 191 0 (mjEnt [.ref a0, .ref p0, .int p1] (mjML 191)) [] Z (fun r M1 => r = some (.ref v9) ∧ M1 = Z9)) (hD : 44 ≤ D) : ∀ (n : Nat) (x0 : Nat) (x1 : Nat) (x2 : Int32) (x3 : Nat) (x4 : Int32) (Z : mjQ) (v9 : Nat) (Z9 : mjQ), g192_t_h14 sg E n x0 x1 x2 x3 x4 Z = some (v9, Z9) → pE sg (D + 2) 192 14 [some (.ref x0), some (.ref x1), some (.int x2), some (.ref x3), some (.int x4)] [] Z (fun r M1 => r = some (.ref v9) ∧ M1 = Z9)
  | 0, x0, x1, x2, x3, x4, Z, v9, Z9, h => by rw [g192_t_h14] at h; cases h
  | n + 1, x0, x1, x2, x3, x4, Z, v9, Z9, h => by
      rw [g192_t_h14] at h
      refine pE_many 2 (pc1 := 17) (L1 := [some (.ref x0), some (.ref x1), some (.int x2), some (.ref x3), some (.int x4)]) (st1 := [.int 1, .int x4]) rfl ?_
      by_cases hc109 : mjCmp .le x4 1 = true
      · rw [if_pos hc109] at h
        refine pE_cmt (t := 58) rfl rfl hc109 ?_
        refine pE_many 1 (pc1 := 59) (L1 := [some (.ref x0), some (.ref x1), some (.int x2), some (.ref x3), some (.int x4)]) (st1 := [.ref x3]) rfl ?_
        simp only [Option.some.injEq, Prod.mk.injEq] at h
        obtain ⟨rfl, rfl⟩ := h
        exact pE_ret (r := some (.ref x3)) rfl ⟨rfl, rfl⟩
      · rw [if_neg hc109] at h
        refine pE_cmf (t := 58) rfl rfl hc109 ?_
        refine pE_many 1 (pc1 := 21) (L1 := [some (.ref x0), some (.ref x1), some (.int x2), some (.ref x3), some (.int x4)]) (st1 := [.ref x0]) rfl ?_
        cases hq111 : qI Z.2 x0 13 2 with
        | none => rw [hq111] at h; cases h
        | some v110 =>
          rw [hq111, mjBp_some] at h
          refine pE_gI rfl rfl hq111 ?_
          by_cases hc112 : mjCmp .le v110 0 = true
          · rw [if_pos hc112] at h
            refine pE_ift (t := 58) rfl rfl hc112 ?_
            refine pE_many 1 (pc1 := 59) (L1 := [some (.ref x0), some (.ref x1), some (.int x2), some (.ref x3), some (.int x4)]) (st1 := [.ref x3]) rfl ?_
            simp only [Option.some.injEq, Prod.mk.injEq] at h
            obtain ⟨rfl, rfl⟩ := h
            exact pE_ret (r := some (.ref x3)) rfl ⟨rfl, rfl⟩
          · rw [if_neg hc112] at h
            refine pE_iff (t := 58) rfl rfl hc112 ?_
            refine pE_many 2 (pc1 := 30) (L1 := [some (.ref x0), some (.ref x1), some (.int x2), some (.ref x3), some (.int x4)]) (st1 := [.ref 1000010, .ref x1]) rfl ?_
            have hk113 : mjRo Z.2 x1 19 = true := by
              by_cases q9 : mjRo Z.2 x1 19 = true
              · exact q9
              · rw [if_neg q9] at h; cases h
            rw [if_pos hk113] at h
            cases hq114 : g233_append sg x1 1000010 Z with
            | none => rw [hq114] at h; cases h
            | some w =>
              obtain ⟨v115, Z116⟩ := w
              rw [hq114, mjBq_some] at h
              refine pE_callV (k2 := 233) (As := [.ref 1000010]) (rest := []) rfl rfl rfl rfl rfl rfl hk113 (by decide) (by decide) (by omega) (g233_append_ok hq114) ?_
              show pE sg (D + 2) 192 33 [some (.ref x0), some (.ref x1), some (.int x2), some (.ref x3), some (.int x4)] [.ref v115] Z116 _
              refine pE_many 1 (pc1 := 34) (L1 := [some (.ref x0), some (.ref x1), some (.int x2), some (.ref x3), some (.int x4)]) (st1 := []) rfl ?_
              cases hq118 : qNew sg Z116 (14, 0) with
              | none => rw [hq118] at h; cases h
              | some w =>
                obtain ⟨v117, Z119⟩ := w
                rw [hq118, mjBq_some] at h
                refine pE_newO rfl rfl (by decide) hq118 ?_
                refine pE_many 7 (pc1 := 45) (L1 := [some (.ref x0), some (.ref x1), some (.int x2), some (.ref x3), some (.int x4)]) (st1 := [.int x2, .ref x1, .ref x0, .ref x3, .int 0, .ref 1000011, .ref v117, .ref v117]) rfl ?_
                have hk120 : mjRo Z119.2 x0 13 = true := by
                  by_cases q9 : mjRo Z119.2 x0 13 = true
                  · exact q9
                  · rw [if_neg q9] at h; cases h
                rw [if_pos hk120] at h
                cases hq121 : g193_a sg E x0 x1 x2 Z119 with
                | none => rw [hq121] at h; cases h
                | some w =>
                  obtain ⟨v122, Z123⟩ := w
                  rw [hq121, mjBq_some] at h
                  refine pE_callV (k2 := 193) (As := [.ref x1, .int x2]) (rest := [.ref x3, .int 0, .ref 1000011, .ref v117, .ref v117]) rfl rfl rfl rfl rfl rfl hk120 (by decide) (by decide) (by omega) (g193_a_ok E hE hD hq121) ?_
                  show pE sg (D + 2) 192 48 [some (.ref x0), some (.ref x1), some (.int x2), some (.ref x3), some (.int x4)] [.ref v122, .ref x3, .int 0, .ref 1000011, .ref v117, .ref v117] Z123 _
                  cases hq124 : g187_init sg v117 1000011 0 (some x3) (some v122) Z123 with
                  | none => rw [hq124] at h; cases h
                  | some w =>
                    obtain ⟨v125, Z126⟩ := w
                    rw [hq124, mjBq_some] at h
                    refine pE_call (k2 := 187) (As := [.ref v117, .ref 1000011, .int 0, .ref x3, .ref v122]) (rest := [.ref v117]) (w := 3) rfl (by decide) (by omega) (g187_init_ok hq124) ?_
                    show pE sg (D + 2) 192 51 [some (.ref x0), some (.ref x1), some (.int x2), some (.ref x3), some (.int x4)] [.ref v117] Z126 _
                    refine pE_many 3 (pc1 := 14) (L1 := [some (.ref x0), some (.ref x1), some (.int x2), some (.ref v117), some (.int (x4 + (-1)))]) (st1 := []) rfl ?_
                    exact g192_t_h14_ok E hE hD n x0 x1 x2 v117 (x4 + (-1)) Z126 v9 Z9 h
def g192_t (sg : Nat → Nat) (E : Nat → Nat → Int32 → mjQ → Option (Nat × mjQ)) (a0 : Nat) (p0 : Nat) (p1 : Int32) (Z : mjQ) : Option (Nat × mjQ) :=
  if mjRo Z.2 a0 13 = true then
  mjBq (g193_a sg E a0 p0 p1 Z) fun v103 Z104 =>
  if mjRo Z104.2 a0 13 = true then
  mjBq (g186_next sg a0 3 Z104) fun v107 Z108 =>
  g192_t_h14 sg E mjF a0 p0 p1 v103 v107 Z108
  else none
  else none
set_option maxRecDepth 100000 in
theorem g192_t_ok {sg : Nat → Nat} {D : Nat} (E : Nat → Nat → Int32 → mjQ → Option (Nat × mjQ)) (hE : ∀ (a0 p0 : Nat) (p1 : Int32) (Z : mjQ) (v9 : Nat) (Z9 : mjQ), E a0 p0 p1 Z = some (v9, Z9) → pE sg D 191 0 (mjEnt [.ref a0, .ref p0, .int p1] (mjML 191)) [] Z (fun r M1 => r = some (.ref v9) ∧ M1 = Z9)) (hD : 44 ≤ D) {a0 : Nat} {p0 : Nat} {p1 : Int32} {Z : mjQ} {v9 : Nat} {Z9 : mjQ} (h : g192_t sg E a0 p0 p1 Z = some (v9, Z9)) : pE sg (D + 2) 192 0 (mjEnt [.ref a0, .ref p0, .int p1] (mjML 192)) [] Z (fun r M1 => r = some (.ref v9) ∧ M1 = Z9) := by
  unfold g192_t at h
  show pE sg (D + 2) 192 0 [some (.ref a0), some (.ref p0), some (.int p1), none, none] [] Z _
  refine pE_many 3 (pc1 := 3) (L1 := [some (.ref a0), some (.ref p0), some (.int p1), none, none]) (st1 := [.int p1, .ref p0, .ref a0]) rfl ?_
  have hk101 : mjRo Z.2 a0 13 = true := by
    by_cases q9 : mjRo Z.2 a0 13 = true
    · exact q9
    · rw [if_neg q9] at h; cases h
  rw [if_pos hk101] at h
  cases hq102 : g193_a sg E a0 p0 p1 Z with
  | none => rw [hq102] at h; cases h
  | some w =>
    obtain ⟨v103, Z104⟩ := w
    rw [hq102, mjBq_some] at h
    refine pE_callV (k2 := 193) (As := [.ref p0, .int p1]) (rest := []) rfl rfl rfl rfl rfl rfl hk101 (by decide) (by decide) (by omega) (g193_a_ok E hE hD hq102) ?_
    show pE sg (D + 2) 192 6 [some (.ref a0), some (.ref p0), some (.int p1), none, none] [.ref v103] Z104 _
    refine pE_many 3 (pc1 := 9) (L1 := [some (.ref a0), some (.ref p0), some (.int p1), some (.ref v103), none]) (st1 := [.int 3, .ref a0]) rfl ?_
    have hk105 : mjRo Z104.2 a0 13 = true := by
      by_cases q9 : mjRo Z104.2 a0 13 = true
      · exact q9
      · rw [if_neg q9] at h; cases h
    rw [if_pos hk105] at h
    cases hq106 : g186_next sg a0 3 Z104 with
    | none => rw [hq106] at h; cases h
    | some w =>
      obtain ⟨v107, Z108⟩ := w
      rw [hq106, mjBq_some] at h
      refine pE_callV (k2 := 186) (As := [.int 3]) (rest := []) rfl rfl rfl rfl rfl rfl hk105 (by decide) (by decide) (by omega) (g186_next_ok hq106) ?_
      show pE sg (D + 2) 192 12 [some (.ref a0), some (.ref p0), some (.int p1), some (.ref v103), none] [.int v107] Z108 _
      refine pE_many 1 (pc1 := 14) (L1 := [some (.ref a0), some (.ref p0), some (.int p1), some (.ref v103), some (.int v107)]) (st1 := []) rfl ?_
      exact g192_t_h14_ok E hE hD mjF a0 p0 p1 v103 v107 Z108 v9 Z9 h
def g191_b_j19 (sg : Nat → Nat) (E : Nat → Nat → Int32 → mjQ → Option (Nat × mjQ)) (x0 : Nat) (x1 : Nat) (x2 : Int32) (s0 : Nat) (s1 : Int32) (Z : mjQ) : Option (Nat × mjQ) :=
  if mjRo Z.2 s0 13 = true then
  mjBq (g186_next sg s0 s1 Z) fun v106 Z107 =>
  if mjCmp .ne v106 3 = true then
    if mjCmp .ne v106 4 = true then
      mjBp (qI Z107.2 x0 13 2) fun v110 =>
      mjBp (qSi Z107 x0 13 2 (v110 - 1)) fun Z112 =>
      if mjRo Z112.2 x0 13 = true then
      mjBq (g190_e sg x0 x1 (x2 + 1) Z112) fun v116 Z117 =>
      mjBq (qNewA sg Z117 120 3) fun v118 Z120 =>
      mjBp (qSra Z120 v118 0 1000018) fun Z121 =>
      mjBp (qSra Z121 v118 1 1000019) fun Z123 =>
      mjBp (qSra Z123 v118 2 1000020) fun Z125 =>
      if mjRo Z125.2 x0 13 = true then
      mjBq (g186_next sg x0 3 Z125) fun v129 Z130 =>
      mjBp (qAa Z130.2 v118 v129) fun v131 =>
      if mjRo Z130.2 x1 19 = true then
      mjBq (g233_append sg x1 1000021 Z130) fun v135 Z136 =>
      if mjRo Z136.2 v135 19 = true then
      mjBq (g233_append sg v135 v131 Z136) fun v139 Z140 =>
      if mjRo Z140.2 v139 19 = true then
      mjBq (g233_append sg v139 1000021 Z140) fun v143 Z144 =>
      if mjRo Z144.2 x0 13 = true then
      mjBq (g190_e sg x0 x1 (x2 + 1) Z144) fun v147 Z148 =>
      mjBp (qI Z148.2 x0 13 3) fun v149 =>
      mjBp (qSi Z148 x0 13 3 (v149 + 1)) fun Z151 =>
      mjBq (qNew sg Z151 (14, 0)) fun v153 Z155 =>
      mjBp (qI Z155.2 x0 13 3) fun v156 =>
      mjBq (g187_init sg v153 v131 (v156 - 1) (some v116) (some v147) Z155) fun _ Z160 =>
      some (v153, Z160)
      else none
      else none
      else none
      else none
      else none
      else none
    else
      if mjRo Z107.2 x1 19 = true then
      mjBq (g233_append sg x1 1000016 Z107) fun v163 Z164 =>
      if mjRo Z164.2 x0 13 = true then
      mjBq (g192_t sg E x0 x1 (x2 + 1) Z164) fun v167 Z168 =>
      if mjRo Z168.2 x1 19 = true then
      mjBq (g233_append sg x1 1000017 Z168) fun v171 Z172 =>
      some (v167, Z172)
      else none
      else none
      else none
  else
    if mjRo Z107.2 x1 19 = true then
    mjBq (g233_append sg x1 1000014 Z107) fun v175 Z176 =>
    mjBq (qNew sg Z176 (14, 0)) fun v177 Z179 =>
    if mjRo Z179.2 x0 13 = true then
    mjBq (E x0 x1 (x2 + 1) Z179) fun v182 Z183 =>
    mjBq (g187_init sg v177 1000015 0 (some v182) none Z183) fun _ Z186 =>
    some (v177, Z186)
    else none
    else none
  else none
set_option maxRecDepth 100000 in
theorem g191_b_j19_ok {sg : Nat → Nat} {D : Nat} (E : Nat → Nat → Int32 → mjQ → Option (Nat × mjQ)) (hE : ∀ (a0 p0 : Nat) (p1 : Int32) (Z : mjQ) (v9 : Nat) (Z9 : mjQ), E a0 p0 p1 Z = some (v9, Z9) → pE sg D 191 0 (mjEnt [.ref a0, .ref p0, .int p1] (mjML 191)) [] Z (fun r M1 => r = some (.ref v9) ∧ M1 = Z9)) (hD : 44 ≤ D) (x0 : Nat) (x1 : Nat) (x2 : Int32) (s0 : Nat) (s1 : Int32) (d3 d4 d5 d6 d7 : Option Value) (Z : mjQ) (v9 : Nat) (Z9 : mjQ) (h : g191_b_j19 sg E x0 x1 x2 s0 s1 Z = some (v9, Z9)) : pE sg (D + 3) 191 19 [some (.ref x0), some (.ref x1), some (.int x2), d3, d4, d5, d6, d7] [.int s1, .ref s0] Z (fun r M1 => r = some (.ref v9) ∧ M1 = Z9) := by
  unfold g191_b_j19 at h
  have hk104 : mjRo Z.2 s0 13 = true := by
    by_cases q9 : mjRo Z.2 s0 13 = true
    · exact q9
    · rw [if_neg q9] at h; cases h
  rw [if_pos hk104] at h
  cases hq105 : g186_next sg s0 s1 Z with
  | none => rw [hq105] at h; cases h
  | some w =>
    obtain ⟨v106, Z107⟩ := w
    rw [hq105, mjBq_some] at h
    refine pE_callV (k2 := 186) (As := [.int s1]) (rest := []) rfl rfl rfl rfl rfl rfl hk104 (by decide) (by decide) (by omega) (g186_next_ok hq105) ?_
    show pE sg (D + 3) 191 22 [some (.ref x0), some (.ref x1), some (.int x2), d3, d4, d5, d6, d7] [.int v106] Z107 _
    refine pE_many 3 (pc1 := 25) (L1 := [some (.ref x0), some (.ref x1), some (.int x2), some (.int v106), d4, d5, d6, d7]) (st1 := [.int 3, .int v106]) rfl ?_
    by_cases hc108 : mjCmp .ne v106 3 = true
    · rw [if_pos hc108] at h
      refine pE_cmt (t := 55) rfl rfl hc108 ?_
      refine pE_many 2 (pc1 := 57) (L1 := [some (.ref x0), some (.ref x1), some (.int x2), some (.int v106), d4, d5, d6, d7]) (st1 := [.int 4, .int v106]) rfl ?_
      by_cases hc109 : mjCmp .ne v106 4 = true
      · rw [if_pos hc109] at h
        refine pE_cmt (t := 87) rfl rfl hc109 ?_
        refine pE_many 2 (pc1 := 89) (L1 := [some (.ref x0), some (.ref x1), some (.int x2), some (.int v106), d4, d5, d6, d7]) (st1 := [.ref x0, .ref x0]) rfl ?_
        cases hq111 : qI Z107.2 x0 13 2 with
        | none => rw [hq111] at h; cases h
        | some v110 =>
          rw [hq111, mjBp_some] at h
          refine pE_gI rfl rfl hq111 ?_
          refine pE_many 2 (pc1 := 94) (L1 := [some (.ref x0), some (.ref x1), some (.int x2), some (.int v106), d4, d5, d6, d7]) (st1 := [.int (v110 - 1), .ref x0]) rfl ?_
          cases hq113 : qSi Z107 x0 13 2 (v110 - 1) with
          | none => rw [hq113] at h; cases h
          | some Z112 =>
            rw [hq113, mjBp_some] at h
            refine pE_pI rfl rfl (by decide) (by decide) hq113 ?_
            refine pE_many 5 (pc1 := 102) (L1 := [some (.ref x0), some (.ref x1), some (.int x2), some (.int v106), d4, d5, d6, d7]) (st1 := [.int (x2 + 1), .ref x1, .ref x0]) rfl ?_
            have hk114 : mjRo Z112.2 x0 13 = true := by
              by_cases q9 : mjRo Z112.2 x0 13 = true
              · exact q9
              · rw [if_neg q9] at h; cases h
            rw [if_pos hk114] at h
            cases hq115 : g190_e sg x0 x1 (x2 + 1) Z112 with
            | none => rw [hq115] at h; cases h
            | some w =>
              obtain ⟨v116, Z117⟩ := w
              rw [hq115, mjBq_some] at h
              refine pE_callV (k2 := 190) (As := [.ref x1, .int (x2 + 1)]) (rest := []) rfl rfl rfl rfl rfl rfl hk114 (by decide) (by decide) (by omega) (g190_e_ok hq115) ?_
              show pE sg (D + 3) 191 105 [some (.ref x0), some (.ref x1), some (.int x2), some (.int v106), d4, d5, d6, d7] [.ref v116] Z117 _
              refine pE_many 2 (pc1 := 108) (L1 := [some (.ref x0), some (.ref x1), some (.int x2), some (.int v106), some (.ref v116), d5, d6, d7]) (st1 := [.int 3]) rfl ?_
              cases hq119 : qNewA sg Z117 120 3 with
              | none => rw [hq119] at h; cases h
              | some w =>
                obtain ⟨v118, Z120⟩ := w
                rw [hq119, mjBq_some] at h
                refine pE_newA rfl rfl rfl rfl rfl (by decide) hq119 ?_
                refine pE_many 3 (pc1 := 115) (L1 := [some (.ref x0), some (.ref x1), some (.int x2), some (.int v106), some (.ref v116), d5, d6, d7]) (st1 := [.ref 1000018, .int 0, .ref v118, .ref v118]) rfl ?_
                cases hq122 : qSra Z120 v118 0 1000018 with
                | none => rw [hq122] at h; cases h
                | some Z121 =>
                  rw [hq122, mjBp_some] at h
                  refine pE_aas rfl (by decide) hq122 ?_
                  refine pE_many 3 (pc1 := 120) (L1 := [some (.ref x0), some (.ref x1), some (.int x2), some (.int v106), some (.ref v116), d5, d6, d7]) (st1 := [.ref 1000019, .int 1, .ref v118, .ref v118]) rfl ?_
                  cases hq124 : qSra Z121 v118 1 1000019 with
                  | none => rw [hq124] at h; cases h
                  | some Z123 =>
                    rw [hq124, mjBp_some] at h
                    refine pE_aas rfl (by decide) hq124 ?_
                    refine pE_many 3 (pc1 := 125) (L1 := [some (.ref x0), some (.ref x1), some (.int x2), some (.int v106), some (.ref v116), d5, d6, d7]) (st1 := [.ref 1000020, .int 2, .ref v118, .ref v118]) rfl ?_
                    cases hq126 : qSra Z123 v118 2 1000020 with
                    | none => rw [hq126] at h; cases h
                    | some Z125 =>
                      rw [hq126, mjBp_some] at h
                      refine pE_aas rfl (by decide) hq126 ?_
                      refine pE_many 4 (pc1 := 132) (L1 := [some (.ref x0), some (.ref x1), some (.int x2), some (.int v106), some (.ref v116), some (.ref v118), d6, d7]) (st1 := [.int 3, .ref x0, .ref v118]) rfl ?_
                      have hk127 : mjRo Z125.2 x0 13 = true := by
                        by_cases q9 : mjRo Z125.2 x0 13 = true
                        · exact q9
                        · rw [if_neg q9] at h; cases h
                      rw [if_pos hk127] at h
                      cases hq128 : g186_next sg x0 3 Z125 with
                      | none => rw [hq128] at h; cases h
                      | some w =>
                        obtain ⟨v129, Z130⟩ := w
                        rw [hq128, mjBq_some] at h
                        refine pE_callV (k2 := 186) (As := [.int 3]) (rest := [.ref v118]) rfl rfl rfl rfl rfl rfl hk127 (by decide) (by decide) (by omega) (g186_next_ok hq128) ?_
                        show pE sg (D + 3) 191 135 [some (.ref x0), some (.ref x1), some (.int x2), some (.int v106), some (.ref v116), some (.ref v118), d6, d7] [.int v129, .ref v118] Z130 _
                        cases hq132 : qAa Z130.2 v118 v129 with
                        | none => rw [hq132] at h; cases h
                        | some v131 =>
                          rw [hq132, mjBp_some] at h
                          refine pE_aal rfl hq132 ?_
                          refine pE_many 3 (pc1 := 141) (L1 := [some (.ref x0), some (.ref x1), some (.int x2), some (.int v106), some (.ref v116), some (.ref v118), some (.ref v131), d7]) (st1 := [.ref 1000021, .ref x1]) rfl ?_
                          have hk133 : mjRo Z130.2 x1 19 = true := by
                            by_cases q9 : mjRo Z130.2 x1 19 = true
                            · exact q9
                            · rw [if_neg q9] at h; cases h
                          rw [if_pos hk133] at h
                          cases hq134 : g233_append sg x1 1000021 Z130 with
                          | none => rw [hq134] at h; cases h
                          | some w =>
                            obtain ⟨v135, Z136⟩ := w
                            rw [hq134, mjBq_some] at h
                            refine pE_callV (k2 := 233) (As := [.ref 1000021]) (rest := []) rfl rfl rfl rfl rfl rfl hk133 (by decide) (by decide) (by omega) (g233_append_ok hq134) ?_
                            show pE sg (D + 3) 191 144 [some (.ref x0), some (.ref x1), some (.int x2), some (.int v106), some (.ref v116), some (.ref v118), some (.ref v131), d7] [.ref v135] Z136 _
                            refine pE_many 1 (pc1 := 146) (L1 := [some (.ref x0), some (.ref x1), some (.int x2), some (.int v106), some (.ref v116), some (.ref v118), some (.ref v131), d7]) (st1 := [.ref v131, .ref v135]) rfl ?_
                            have hk137 : mjRo Z136.2 v135 19 = true := by
                              by_cases q9 : mjRo Z136.2 v135 19 = true
                              · exact q9
                              · rw [if_neg q9] at h; cases h
                            rw [if_pos hk137] at h
                            cases hq138 : g233_append sg v135 v131 Z136 with
                            | none => rw [hq138] at h; cases h
                            | some w =>
                              obtain ⟨v139, Z140⟩ := w
                              rw [hq138, mjBq_some] at h
                              refine pE_callV (k2 := 233) (As := [.ref v131]) (rest := []) rfl rfl rfl rfl rfl rfl hk137 (by decide) (by decide) (by omega) (g233_append_ok hq138) ?_
                              show pE sg (D + 3) 191 149 [some (.ref x0), some (.ref x1), some (.int x2), some (.int v106), some (.ref v116), some (.ref v118), some (.ref v131), d7] [.ref v139] Z140 _
                              refine pE_many 1 (pc1 := 151) (L1 := [some (.ref x0), some (.ref x1), some (.int x2), some (.int v106), some (.ref v116), some (.ref v118), some (.ref v131), d7]) (st1 := [.ref 1000021, .ref v139]) rfl ?_
                              have hk141 : mjRo Z140.2 v139 19 = true := by
                                by_cases q9 : mjRo Z140.2 v139 19 = true
                                · exact q9
                                · rw [if_neg q9] at h; cases h
                              rw [if_pos hk141] at h
                              cases hq142 : g233_append sg v139 1000021 Z140 with
                              | none => rw [hq142] at h; cases h
                              | some w =>
                                obtain ⟨v143, Z144⟩ := w
                                rw [hq142, mjBq_some] at h
                                refine pE_callV (k2 := 233) (As := [.ref 1000021]) (rest := []) rfl rfl rfl rfl rfl rfl hk141 (by decide) (by decide) (by omega) (g233_append_ok hq142) ?_
                                show pE sg (D + 3) 191 154 [some (.ref x0), some (.ref x1), some (.int x2), some (.int v106), some (.ref v116), some (.ref v118), some (.ref v131), d7] [.ref v143] Z144 _
                                refine pE_many 6 (pc1 := 160) (L1 := [some (.ref x0), some (.ref x1), some (.int x2), some (.int v106), some (.ref v116), some (.ref v118), some (.ref v131), d7]) (st1 := [.int (x2 + 1), .ref x1, .ref x0]) rfl ?_
                                have hk145 : mjRo Z144.2 x0 13 = true := by
                                  by_cases q9 : mjRo Z144.2 x0 13 = true
                                  · exact q9
                                  · rw [if_neg q9] at h; cases h
                                rw [if_pos hk145] at h
                                cases hq146 : g190_e sg x0 x1 (x2 + 1) Z144 with
                                | none => rw [hq146] at h; cases h
                                | some w =>
                                  obtain ⟨v147, Z148⟩ := w
                                  rw [hq146, mjBq_some] at h
                                  refine pE_callV (k2 := 190) (As := [.ref x1, .int (x2 + 1)]) (rest := []) rfl rfl rfl rfl rfl rfl hk145 (by decide) (by decide) (by omega) (g190_e_ok hq146) ?_
                                  show pE sg (D + 3) 191 163 [some (.ref x0), some (.ref x1), some (.int x2), some (.int v106), some (.ref v116), some (.ref v118), some (.ref v131), d7] [.ref v147] Z148 _
                                  refine pE_many 3 (pc1 := 167) (L1 := [some (.ref x0), some (.ref x1), some (.int x2), some (.int v106), some (.ref v116), some (.ref v118), some (.ref v131), some (.ref v147)]) (st1 := [.ref x0, .ref x0]) rfl ?_
                                  cases hq150 : qI Z148.2 x0 13 3 with
                                  | none => rw [hq150] at h; cases h
                                  | some v149 =>
                                    rw [hq150, mjBp_some] at h
                                    refine pE_gI rfl rfl hq150 ?_
                                    refine pE_many 2 (pc1 := 172) (L1 := [some (.ref x0), some (.ref x1), some (.int x2), some (.int v106), some (.ref v116), some (.ref v118), some (.ref v131), some (.ref v147)]) (st1 := [.int (v149 + 1), .ref x0]) rfl ?_
                                    cases hq152 : qSi Z148 x0 13 3 (v149 + 1) with
                                    | none => rw [hq152] at h; cases h
                                    | some Z151 =>
                                      rw [hq152, mjBp_some] at h
                                      refine pE_pI rfl rfl (by decide) (by decide) hq152 ?_
                                      cases hq154 : qNew sg Z151 (14, 0) with
                                      | none => rw [hq154] at h; cases h
                                      | some w =>
                                        obtain ⟨v153, Z155⟩ := w
                                        rw [hq154, mjBq_some] at h
                                        refine pE_newO rfl rfl (by decide) hq154 ?_
                                        refine pE_many 3 (pc1 := 182) (L1 := [some (.ref x0), some (.ref x1), some (.int x2), some (.int v106), some (.ref v116), some (.ref v118), some (.ref v131), some (.ref v147)]) (st1 := [.ref x0, .ref v131, .ref v153, .ref v153]) rfl ?_
                                        cases hq157 : qI Z155.2 x0 13 3 with
                                        | none => rw [hq157] at h; cases h
                                        | some v156 =>
                                          rw [hq157, mjBp_some] at h
                                          refine pE_gI rfl rfl hq157 ?_
                                          refine pE_many 4 (pc1 := 191) (L1 := [some (.ref x0), some (.ref x1), some (.int x2), some (.int v106), some (.ref v116), some (.ref v118), some (.ref v131), some (.ref v147)]) (st1 := [.ref v147, .ref v116, .int (v156 - 1), .ref v131, .ref v153, .ref v153]) rfl ?_
                                          cases hq158 : g187_init sg v153 v131 (v156 - 1) (some v116) (some v147) Z155 with
                                          | none => rw [hq158] at h; cases h
                                          | some w =>
                                            obtain ⟨v159, Z160⟩ := w
                                            rw [hq158, mjBq_some] at h
                                            refine pE_call (k2 := 187) (As := [.ref v153, .ref v131, .int (v156 - 1), .ref v116, .ref v147]) (rest := [.ref v153]) (w := 3) rfl (by decide) (by omega) (g187_init_ok hq158) ?_
                                            show pE sg (D + 3) 191 194 [some (.ref x0), some (.ref x1), some (.int x2), some (.int v106), some (.ref v116), some (.ref v118), some (.ref v131), some (.ref v147)] [.ref v153] Z160 _
                                            simp only [Option.some.injEq, Prod.mk.injEq] at h
                                            obtain ⟨rfl, rfl⟩ := h
                                            exact pE_ret (r := some (.ref v153)) rfl ⟨rfl, rfl⟩
      · rw [if_neg hc109] at h
        refine pE_cmf (t := 87) rfl rfl hc109 ?_
        refine pE_many 2 (pc1 := 63) (L1 := [some (.ref x0), some (.ref x1), some (.int x2), some (.int v106), d4, d5, d6, d7]) (st1 := [.ref 1000016, .ref x1]) rfl ?_
        have hk161 : mjRo Z107.2 x1 19 = true := by
          by_cases q9 : mjRo Z107.2 x1 19 = true
          · exact q9
          · rw [if_neg q9] at h; cases h
        rw [if_pos hk161] at h
        cases hq162 : g233_append sg x1 1000016 Z107 with
        | none => rw [hq162] at h; cases h
        | some w =>
          obtain ⟨v163, Z164⟩ := w
          rw [hq162, mjBq_some] at h
          refine pE_callV (k2 := 233) (As := [.ref 1000016]) (rest := []) rfl rfl rfl rfl rfl rfl hk161 (by decide) (by decide) (by omega) (g233_append_ok hq162) ?_
          show pE sg (D + 3) 191 66 [some (.ref x0), some (.ref x1), some (.int x2), some (.int v106), d4, d5, d6, d7] [.ref v163] Z164 _
          refine pE_many 6 (pc1 := 72) (L1 := [some (.ref x0), some (.ref x1), some (.int x2), some (.int v106), d4, d5, d6, d7]) (st1 := [.int (x2 + 1), .ref x1, .ref x0]) rfl ?_
          have hk165 : mjRo Z164.2 x0 13 = true := by
            by_cases q9 : mjRo Z164.2 x0 13 = true
            · exact q9
            · rw [if_neg q9] at h; cases h
          rw [if_pos hk165] at h
          cases hq166 : g192_t sg E x0 x1 (x2 + 1) Z164 with
          | none => rw [hq166] at h; cases h
          | some w =>
            obtain ⟨v167, Z168⟩ := w
            rw [hq166, mjBq_some] at h
            refine pE_callV (k2 := 192) (As := [.ref x1, .int (x2 + 1)]) (rest := []) rfl rfl rfl rfl rfl rfl hk165 (by decide) (by decide) (by omega) (g192_t_ok E hE hD hq166) ?_
            show pE sg (D + 3) 191 75 [some (.ref x0), some (.ref x1), some (.int x2), some (.int v106), d4, d5, d6, d7] [.ref v167] Z168 _
            refine pE_many 3 (pc1 := 80) (L1 := [some (.ref x0), some (.ref x1), some (.int x2), some (.int v106), some (.ref v167), d5, d6, d7]) (st1 := [.ref 1000017, .ref x1]) rfl ?_
            have hk169 : mjRo Z168.2 x1 19 = true := by
              by_cases q9 : mjRo Z168.2 x1 19 = true
              · exact q9
              · rw [if_neg q9] at h; cases h
            rw [if_pos hk169] at h
            cases hq170 : g233_append sg x1 1000017 Z168 with
            | none => rw [hq170] at h; cases h
            | some w =>
              obtain ⟨v171, Z172⟩ := w
              rw [hq170, mjBq_some] at h
              refine pE_callV (k2 := 233) (As := [.ref 1000017]) (rest := []) rfl rfl rfl rfl rfl rfl hk169 (by decide) (by decide) (by omega) (g233_append_ok hq170) ?_
              show pE sg (D + 3) 191 83 [some (.ref x0), some (.ref x1), some (.int x2), some (.int v106), some (.ref v167), d5, d6, d7] [.ref v171] Z172 _
              refine pE_many 2 (pc1 := 86) (L1 := [some (.ref x0), some (.ref x1), some (.int x2), some (.int v106), some (.ref v167), d5, d6, d7]) (st1 := [.ref v167]) rfl ?_
              simp only [Option.some.injEq, Prod.mk.injEq] at h
              obtain ⟨rfl, rfl⟩ := h
              exact pE_ret (r := some (.ref v167)) rfl ⟨rfl, rfl⟩
    · rw [if_neg hc108] at h
      refine pE_cmf (t := 55) rfl rfl hc108 ?_
      refine pE_many 2 (pc1 := 31) (L1 := [some (.ref x0), some (.ref x1), some (.int x2), some (.int v106), d4, d5, d6, d7]) (st1 := [.ref 1000014, .ref x1]) rfl ?_
      have hk173 : mjRo Z107.2 x1 19 = true := by
        by_cases q9 : mjRo Z107.2 x1 19 = true
        · exact q9
        · rw [if_neg q9] at h; cases h
      rw [if_pos hk173] at h
      cases hq174 : g233_append sg x1 1000014 Z107 with
      | none => rw [hq174] at h; cases h
      | some w =>
        obtain ⟨v175, Z176⟩ := w
        rw [hq174, mjBq_some] at h
        refine pE_callV (k2 := 233) (As := [.ref 1000014]) (rest := []) rfl rfl rfl rfl rfl rfl hk173 (by decide) (by decide) (by omega) (g233_append_ok hq174) ?_
        show pE sg (D + 3) 191 34 [some (.ref x0), some (.ref x1), some (.int x2), some (.int v106), d4, d5, d6, d7] [.ref v175] Z176 _
        refine pE_many 1 (pc1 := 35) (L1 := [some (.ref x0), some (.ref x1), some (.int x2), some (.int v106), d4, d5, d6, d7]) (st1 := []) rfl ?_
        cases hq178 : qNew sg Z176 (14, 0) with
        | none => rw [hq178] at h; cases h
        | some w =>
          obtain ⟨v177, Z179⟩ := w
          rw [hq178, mjBq_some] at h
          refine pE_newO rfl rfl (by decide) hq178 ?_
          refine pE_many 8 (pc1 := 47) (L1 := [some (.ref x0), some (.ref x1), some (.int x2), some (.int v106), d4, d5, d6, d7]) (st1 := [.int (x2 + 1), .ref x1, .ref x0, .int 0, .ref 1000015, .ref v177, .ref v177]) rfl ?_
          have hk180 : mjRo Z179.2 x0 13 = true := by
            by_cases q9 : mjRo Z179.2 x0 13 = true
            · exact q9
            · rw [if_neg q9] at h; cases h
          rw [if_pos hk180] at h
          cases hq181 : E x0 x1 (x2 + 1) Z179 with
          | none => rw [hq181] at h; cases h
          | some w =>
            obtain ⟨v182, Z183⟩ := w
            rw [hq181, mjBq_some] at h
            refine pE_callV (k2 := 191) (As := [.ref x1, .int (x2 + 1)]) (rest := [.int 0, .ref 1000015, .ref v177, .ref v177]) rfl rfl rfl rfl rfl rfl hk180 (by decide) (by decide) (by omega) (hE x0 x1 (x2 + 1) Z179 _ _ hq181) ?_
            show pE sg (D + 3) 191 50 [some (.ref x0), some (.ref x1), some (.int x2), some (.int v106), d4, d5, d6, d7] [.ref v182, .int 0, .ref 1000015, .ref v177, .ref v177] Z183 _
            refine pE_many 1 (pc1 := 51) (L1 := [some (.ref x0), some (.ref x1), some (.int x2), some (.int v106), d4, d5, d6, d7]) (st1 := [.null, .ref v182, .int 0, .ref 1000015, .ref v177, .ref v177]) rfl ?_
            cases hq184 : g187_init sg v177 1000015 0 (some v182) none Z183 with
            | none => rw [hq184] at h; cases h
            | some w =>
              obtain ⟨v185, Z186⟩ := w
              rw [hq184, mjBq_some] at h
              refine pE_call (k2 := 187) (As := [.ref v177, .ref 1000015, .int 0, .ref v182, .null]) (rest := [.ref v177]) (w := 3) rfl (by decide) (by omega) (g187_init_ok hq184) ?_
              show pE sg (D + 3) 191 54 [some (.ref x0), some (.ref x1), some (.int x2), some (.int v106), d4, d5, d6, d7] [.ref v177] Z186 _
              simp only [Option.some.injEq, Prod.mk.injEq] at h
              obtain ⟨rfl, rfl⟩ := h
              exact pE_ret (r := some (.ref v177)) rfl ⟨rfl, rfl⟩
def g191_b_j14 (sg : Nat → Nat) (E : Nat → Nat → Int32 → mjQ → Option (Nat × mjQ)) (x0 : Nat) (x1 : Nat) (x2 : Int32) (s0 : Nat) (Z : mjQ) : Option (Nat × mjQ) :=
  g191_b_j19 sg E x0 x1 x2 s0 3 Z
set_option maxRecDepth 100000 in
theorem g191_b_j14_ok {sg : Nat → Nat} {D : Nat} (E : Nat → Nat → Int32 → mjQ → Option (Nat × mjQ)) (hE : ∀ (a0 p0 : Nat) (p1 : Int32) (Z : mjQ) (v9 : Nat) (Z9 : mjQ), E a0 p0 p1 Z = some (v9, Z9) → pE sg D 191 0 (mjEnt [.ref a0, .ref p0, .int p1] (mjML 191)) [] Z (fun r M1 => r = some (.ref v9) ∧ M1 = Z9)) (hD : 44 ≤ D) (x0 : Nat) (x1 : Nat) (x2 : Int32) (s0 : Nat) (d3 d4 d5 d6 d7 : Option Value) (Z : mjQ) (v9 : Nat) (Z9 : mjQ) (h : g191_b_j14 sg E x0 x1 x2 s0 Z = some (v9, Z9)) : pE sg (D + 3) 191 14 [some (.ref x0), some (.ref x1), some (.int x2), d3, d4, d5, d6, d7] [.ref s0] Z (fun r M1 => r = some (.ref v9) ∧ M1 = Z9) := by
  unfold g191_b_j14 at h
  refine pE_many 2 (pc1 := 19) (L1 := [some (.ref x0), some (.ref x1), some (.int x2), d3, d4, d5, d6, d7]) (st1 := [.int 3, .ref s0]) rfl ?_
  exact g191_b_j19_ok E hE hD x0 x1 x2 s0 3 d3 d4 d5 d6 d7 Z v9 Z9 h
def g191_b_b (sg : Nat → Nat) (E : Nat → Nat → Int32 → mjQ → Option (Nat × mjQ)) (a0 : Nat) (p0 : Nat) (p1 : Int32) (Z : mjQ) : Option (Nat × mjQ) :=
  mjBp (qI Z.2 a0 13 2) fun v101 =>
  if mjCmp .lt v101 1 = true then
    g191_b_j14 sg E a0 p0 p1 a0 Z
  else
    if mjCmp .le p1 1 = true then
      g191_b_j19 sg E a0 p0 p1 a0 5 Z
    else
      g191_b_j14 sg E a0 p0 p1 a0 Z
set_option maxRecDepth 100000 in
theorem g191_b_b_ok {sg : Nat → Nat} {D : Nat} (E : Nat → Nat → Int32 → mjQ → Option (Nat × mjQ)) (hE : ∀ (a0 p0 : Nat) (p1 : Int32) (Z : mjQ) (v9 : Nat) (Z9 : mjQ), E a0 p0 p1 Z = some (v9, Z9) → pE sg D 191 0 (mjEnt [.ref a0, .ref p0, .int p1] (mjML 191)) [] Z (fun r M1 => r = some (.ref v9) ∧ M1 = Z9)) (hD : 44 ≤ D) {a0 : Nat} {p0 : Nat} {p1 : Int32} {Z : mjQ} {v9 : Nat} {Z9 : mjQ} (h : g191_b_b sg E a0 p0 p1 Z = some (v9, Z9)) : pE sg (D + 3) 191 0 (mjEnt [.ref a0, .ref p0, .int p1] (mjML 191)) [] Z (fun r M1 => r = some (.ref v9) ∧ M1 = Z9) := by
  unfold g191_b_b at h
  show pE sg (D + 3) 191 0 [some (.ref a0), some (.ref p0), some (.int p1), none, none, none, none, none] [] Z _
  refine pE_many 2 (pc1 := 2) (L1 := [some (.ref a0), some (.ref p0), some (.int p1), none, none, none, none, none]) (st1 := [.ref a0, .ref a0]) rfl ?_
  cases hq102 : qI Z.2 a0 13 2 with
  | none => rw [hq102] at h; cases h
  | some v101 =>
    rw [hq102, mjBp_some] at h
    refine pE_gI rfl rfl hq102 ?_
    refine pE_many 1 (pc1 := 6) (L1 := [some (.ref a0), some (.ref p0), some (.int p1), none, none, none, none, none]) (st1 := [.int 1, .int v101, .ref a0]) rfl ?_
    by_cases hc103 : mjCmp .lt v101 1 = true
    · rw [if_pos hc103] at h
      refine pE_cmt (t := 14) rfl rfl hc103 ?_
      exact g191_b_j14_ok E hE hD a0 p0 p1 a0 none none none none none Z v9 Z9 h
    · rw [if_neg hc103] at h
      refine pE_cmf (t := 14) rfl rfl hc103 ?_
      refine pE_many 2 (pc1 := 11) (L1 := [some (.ref a0), some (.ref p0), some (.int p1), none, none, none, none, none]) (st1 := [.int 1, .int p1, .ref a0]) rfl ?_
      by_cases hc187 : mjCmp .le p1 1 = true
      · rw [if_pos hc187] at h
        refine pE_cmt (t := 18) rfl rfl hc187 ?_
        refine pE_many 1 (pc1 := 19) (L1 := [some (.ref a0), some (.ref p0), some (.int p1), none, none, none, none, none]) (st1 := [.int 5, .ref a0]) rfl ?_
        exact g191_b_j19_ok E hE hD a0 p0 p1 a0 5 none none none none none Z v9 Z9 h
      · rw [if_neg hc187] at h
        refine pE_cmf (t := 18) rfl rfl hc187 ?_
        exact g191_b_j14_ok E hE hD a0 p0 p1 a0 none none none none none Z v9 Z9 h
def g191_b_n (sg : Nat → Nat) : Nat → Nat → Nat → Int32 → mjQ → Option (Nat × mjQ)
  | 0, _, _, _, _ => none
  | j + 1, a0, p0, p1, Z => g191_b_b sg (g191_b_n sg j) a0 p0 p1 Z
theorem g191_b_n_ok {sg : Nat → Nat} : ∀ (j a0 p0 : Nat) (p1 : Int32) (Z : mjQ) (v9 : Nat) (Z9 : mjQ), g191_b_n sg j a0 p0 p1 Z = some (v9, Z9) → pE sg (44 + 3 * j) 191 0 (mjEnt [.ref a0, .ref p0, .int p1] (mjML 191)) [] Z (fun r M1 => r = some (.ref v9) ∧ M1 = Z9)
  | 0, a0, p0, p1, Z, v9, Z9, h => by rw [g191_b_n] at h; cases h
  | j + 1, a0, p0, p1, Z, v9, Z9, h => g191_b_b_ok (D := 44 + 3 * j) (g191_b_n sg j) (g191_b_n_ok j) (by omega) h
def g191_b (sg : Nat → Nat) (a0 p0 : Nat) (p1 : Int32) (Z : mjQ) : Option (Nat × mjQ) := g191_b_n sg 4 a0 p0 p1 Z
theorem g191_b_ok {sg : Nat → Nat} {a0 p0 : Nat} {p1 : Int32} {Z : mjQ} {v9 : Nat} {Z9 : mjQ} (h : g191_b sg a0 p0 p1 Z = some (v9, Z9)) : pE sg 56 191 0 (mjEnt [.ref a0, .ref p0, .int p1] (mjML 191)) [] Z (fun r M1 => r = some (.ref v9) ∧ M1 = Z9) := g191_b_n_ok 4 a0 p0 p1 Z v9 Z9 h
def g192_tc (sg : Nat → Nat) (a0 p0 : Nat) (p1 : Int32) (Z : mjQ) : Option (Nat × mjQ) := g192_t sg (g191_b sg) a0 p0 p1 Z
theorem g192_tc_ok {sg : Nat → Nat} {a0 p0 : Nat} {p1 : Int32} {Z : mjQ} {v9 : Nat} {Z9 : mjQ} (h : g192_tc sg a0 p0 p1 Z = some (v9, Z9)) : pE sg 58 192 0 (mjEnt [.ref a0, .ref p0, .int p1] (mjML 192)) [] Z (fun r M1 => r = some (.ref v9) ∧ M1 = Z9) := g192_t_ok (D := 56) (g191_b sg) (fun _ _ _ _ _ _ h => g191_b_ok h) (by omega) h
def g173_isLatin1 (a0 : Nat) (Z : mjQ) : Option Int32 :=
  if mjCmp .eq 1 0 = true then
    some 0
  else
    mjBp (qI Z.2 a0 18 1) fun v102 =>
    if mjCmp .ne v102 0 = true then
      some 0
    else
      some 1
theorem g173_isLatin1_ok {sg : Nat → Nat} {a0 : Nat} {Z : mjQ} {v9 : Int32} (h : g173_isLatin1 a0 Z = some v9) : pE sg 1 173 0 (mjEnt [.ref a0] (mjML 173)) [] Z (fun r M1 => r = some (.int v9) ∧ M1 = Z) := by
  unfold g173_isLatin1 at h
  show pE sg 1 173 0 [some (.ref a0)] [] Z _
  refine pE_many 1 (pc1 := 3) (L1 := [some (.ref a0)]) (st1 := [.int 1]) rfl ?_
  by_cases hc101 : mjCmp .eq 1 0 = true
  · rw [if_pos hc101] at h
    refine pE_ift (t := 17) rfl rfl hc101 ?_
    refine pE_many 1 (pc1 := 18) (L1 := [some (.ref a0)]) (st1 := [.int 0]) rfl ?_
    simp only [Option.some.injEq] at h
    subst h
    exact pE_ret (r := some (.int 0)) rfl ⟨rfl, rfl⟩
  · rw [if_neg hc101] at h
    refine pE_iff (t := 17) rfl rfl hc101 ?_
    refine pE_many 1 (pc1 := 7) (L1 := [some (.ref a0)]) (st1 := [.ref a0]) rfl ?_
    cases hq103 : qI Z.2 a0 18 1 with
    | none => rw [hq103] at h; cases h
    | some v102 =>
      rw [hq103, mjBp_some] at h
      refine pE_gI rfl rfl hq103 ?_
      by_cases hc104 : mjCmp .ne v102 0 = true
      · rw [if_pos hc104] at h
        refine pE_ift (t := 17) rfl rfl hc104 ?_
        refine pE_many 1 (pc1 := 18) (L1 := [some (.ref a0)]) (st1 := [.int 0]) rfl ?_
        simp only [Option.some.injEq] at h
        subst h
        exact pE_ret (r := some (.int 0)) rfl ⟨rfl, rfl⟩
      · rw [if_neg hc104] at h
        refine pE_iff (t := 17) rfl rfl hc104 ?_
        refine pE_many 2 (pc1 := 18) (L1 := [some (.ref a0)]) (st1 := [.int 1]) rfl ?_
        simp only [Option.some.injEq] at h
        subst h
        exact pE_ret (r := some (.int 1)) rfl ⟨rfl, rfl⟩
def g175_checkIndex (p0 : Int32) (p1 : Int32) (Z : mjQ) : Option Unit :=
  if Z.2.1 2000001 1 = 0 then
    mjBp (g176_checkIndex p0 p1 none Z) fun v103 =>
    some (())
  else
    mjBp (g176_checkIndex p0 p1 (some 1200000) Z) fun v106 =>
    some (())
theorem g175_checkIndex_ok {sg : Nat → Nat} {p0 : Int32} {p1 : Int32} {Z : mjQ} {v9 : Unit} (h : g175_checkIndex p0 p1 Z = some v9) : pE sg 2 175 0 (mjEnt [.int p0, .int p1] (mjML 175)) [] Z (fun r M1 => r = none ∧ M1 = Z) := by
  unfold g175_checkIndex at h
  show pE sg 2 175 0 [some (.int p0), some (.int p1)] [] Z _
  refine pE_many 2 (pc1 := 2) (L1 := [some (.int p0), some (.int p1)]) (st1 := [.int p1, .int p0]) rfl ?_
  by_cases hc101 : Z.2.1 2000001 1 = 0
  · rw [if_pos hc101] at h
    refine pE_one (pc1 := 5) (L1 := [some (.int p0), some (.int p1)]) (st1 := [.null, .int p1, .int p0]) (if_pos hc101) ?_
    show pE sg 2 175 5 [some (.int p0), some (.int p1)] [.null, .int p1, .int p0] Z _
    cases hq102 : g176_checkIndex p0 p1 none Z with
    | none => rw [hq102] at h; cases h
    | some v103 =>
      rw [hq102, mjBp_some] at h
      refine pE_call (k2 := 176) (As := [.int p0, .int p1, .null]) (rest := []) (w := 3) rfl (by decide) (by decide) (g176_checkIndex_ok hq102) ?_
      show pE sg 2 175 8 [some (.int p0), some (.int p1)] [.int v103] Z _
      refine pE_many 1 (pc1 := 9) (L1 := [some (.int p0), some (.int p1)]) (st1 := []) rfl ?_
      exact pE_ret (r := none) rfl ⟨rfl, rfl⟩
  · rw [if_neg hc101] at h
    refine pE_one (pc1 := 5) (L1 := [some (.int p0), some (.int p1)]) (st1 := [.ref 1200000, .int p1, .int p0]) (if_neg hc101) ?_
    show pE sg 2 175 5 [some (.int p0), some (.int p1)] [.ref 1200000, .int p1, .int p0] Z _
    cases hq105 : g176_checkIndex p0 p1 (some 1200000) Z with
    | none => rw [hq105] at h; cases h
    | some v106 =>
      rw [hq105, mjBp_some] at h
      refine pE_call (k2 := 176) (As := [.int p0, .int p1, .ref 1200000]) (rest := []) (w := 3) rfl (by decide) (by decide) (g176_checkIndex_ok hq105) ?_
      show pE sg 2 175 8 [some (.int p0), some (.int p1)] [.int v106] Z _
      refine pE_many 1 (pc1 := 9) (L1 := [some (.int p0), some (.int p1)]) (st1 := []) rfl ?_
      exact pE_ret (r := none) rfl ⟨rfl, rfl⟩
def g174_charAt (p0 : Nat) (p1 : Int32) (Z : mjQ) : Option Int32 :=
  mjBp (qLn Z.2 p0) fun v101 =>
  mjBp (g175_checkIndex p1 v101 Z) fun v104 =>
  mjBp (qBa Z.2 p0 p1) fun v106 =>
  if (((v106 &&& 255).toUInt32 % 65536).toInt32).toUInt32.toUInt16.toUInt32.toInt32 = ((v106 &&& 255).toUInt32 % 65536).toInt32 then
  some (((v106 &&& 255).toUInt32 % 65536).toInt32)
  else none
theorem g174_charAt_ok {sg : Nat → Nat} {p0 : Nat} {p1 : Int32} {Z : mjQ} {v9 : Int32} (h : g174_charAt p0 p1 Z = some v9) : pE sg 3 174 0 (mjEnt [.ref p0, .int p1] (mjML 174)) [] Z (fun r M1 => r = some (.int v9) ∧ M1 = Z) := by
  unfold g174_charAt at h
  show pE sg 3 174 0 [some (.ref p0), some (.int p1)] [] Z _
  refine pE_many 2 (pc1 := 2) (L1 := [some (.ref p0), some (.int p1)]) (st1 := [.ref p0, .int p1]) rfl ?_
  cases hq102 : qLn Z.2 p0 with
  | none => rw [hq102] at h; cases h
  | some v101 =>
    rw [hq102, mjBp_some] at h
    refine pE_len rfl hq102 ?_
    cases hq103 : g175_checkIndex p1 v101 Z with
    | none => rw [hq103] at h; cases h
    | some v104 =>
      rw [hq103, mjBp_some] at h
      refine pE_call (k2 := 175) (As := [.int p1, .int v101]) (rest := []) (w := 3) rfl (by decide) (by decide) (g175_checkIndex_ok hq103) ?_
      show pE sg 3 174 6 [some (.ref p0), some (.int p1)] [] Z _
      refine pE_many 2 (pc1 := 8) (L1 := [some (.ref p0), some (.int p1)]) (st1 := [.int p1, .ref p0]) rfl ?_
      cases hq107 : qBa Z.2 p0 p1 with
      | none => rw [hq107] at h; cases h
      | some v106 =>
        rw [hq107, mjBp_some] at h
        refine pE_bal rfl hq107 ?_
        refine pE_many 3 (pc1 := 14) (L1 := [some (.ref p0), some (.int p1)]) (st1 := [.int (((v106 &&& 255).toUInt32 % 65536).toInt32)]) rfl ?_
        have hk108 : (((v106 &&& 255).toUInt32 % 65536).toInt32).toUInt32.toUInt16.toUInt32.toInt32 = ((v106 &&& 255).toUInt32 % 65536).toInt32 := by
          by_cases q9 : (((v106 &&& 255).toUInt32 % 65536).toInt32).toUInt32.toUInt16.toUInt32.toInt32 = ((v106 &&& 255).toUInt32 % 65536).toInt32
          · exact q9
          · rw [if_neg q9] at h; cases h
        rw [if_pos hk108] at h
        simp only [Option.some.injEq] at h
        subst h
        exact pE_ret (r := some (.int (((v106 &&& 255).toUInt32 % 65536).toInt32))) (mjRt1_c rfl rfl hk108) ⟨rfl, rfl⟩
def g172_charAt (a0 : Nat) (p0 : Int32) (Z : mjQ) : Option Int32 :=
  if mjRo Z.2 a0 18 = true then
  mjBp (g173_isLatin1 a0 Z) fun v103 =>
  if mjCmp .eq v103 0 = true then
    mjBp (qR Z.2 a0 18 0) fun v106 =>
    none
  else
    mjBp (qR Z.2 a0 18 0) fun v108 =>
    mjBp (g174_charAt v108 p0 Z) fun v111 =>
    if v111.toUInt32.toUInt16.toUInt32.toInt32 = v111 then
    some v111
    else none
  else none
theorem g172_charAt_ok {sg : Nat → Nat} {a0 : Nat} {p0 : Int32} {Z : mjQ} {v9 : Int32} (h : g172_charAt a0 p0 Z = some v9) : pE sg 4 172 0 (mjEnt [.ref a0, .int p0] (mjML 172)) [] Z (fun r M1 => r = some (.int v9) ∧ M1 = Z) := by
  unfold g172_charAt at h
  show pE sg 4 172 0 [some (.ref a0), some (.int p0)] [] Z _
  refine pE_many 1 (pc1 := 1) (L1 := [some (.ref a0), some (.int p0)]) (st1 := [.ref a0]) rfl ?_
  have hk101 : mjRo Z.2 a0 18 = true := by
    by_cases q9 : mjRo Z.2 a0 18 = true
    · exact q9
    · rw [if_neg q9] at h; cases h
  rw [if_pos hk101] at h
  cases hq102 : g173_isLatin1 a0 Z with
  | none => rw [hq102] at h; cases h
  | some v103 =>
    rw [hq102, mjBp_some] at h
    refine pE_callV (k2 := 173) (As := []) (rest := []) rfl rfl rfl rfl rfl rfl hk101 (by decide) (by decide) (by decide) (g173_isLatin1_ok hq102) ?_
    show pE sg 4 172 4 [some (.ref a0), some (.int p0)] [.int v103] Z _
    by_cases hc105 : mjCmp .eq v103 0 = true
    · rw [if_pos hc105] at h
      refine pE_ift (t := 16) rfl rfl hc105 ?_
      refine pE_many 1 (pc1 := 17) (L1 := [some (.ref a0), some (.int p0)]) (st1 := [.ref a0]) rfl ?_
      cases hq107 : qR Z.2 a0 18 0 with
      | none => rw [hq107] at h; cases h
      | some v106 =>
        rw [hq107, mjBp_some] at h
        refine pE_gR rfl rfl hq107 ?_
        refine pE_many 1 (pc1 := 21) (L1 := [some (.ref a0), some (.int p0)]) (st1 := [.int p0, .ref v106]) rfl ?_
        cases h
    · rw [if_neg hc105] at h
      refine pE_iff (t := 16) rfl rfl hc105 ?_
      refine pE_many 1 (pc1 := 8) (L1 := [some (.ref a0), some (.int p0)]) (st1 := [.ref a0]) rfl ?_
      cases hq109 : qR Z.2 a0 18 0 with
      | none => rw [hq109] at h; cases h
      | some v108 =>
        rw [hq109, mjBp_some] at h
        refine pE_gR rfl rfl hq109 ?_
        refine pE_many 1 (pc1 := 12) (L1 := [some (.ref a0), some (.int p0)]) (st1 := [.int p0, .ref v108]) rfl ?_
        cases hq110 : g174_charAt v108 p0 Z with
        | none => rw [hq110] at h; cases h
        | some v111 =>
          rw [hq110, mjBp_some] at h
          refine pE_call (k2 := 174) (As := [.ref v108, .int p0]) (rest := []) (w := 3) rfl (by decide) (by decide) (g174_charAt_ok hq110) ?_
          show pE sg 4 172 15 [some (.ref a0), some (.int p0)] [.int v111] Z _
          have hk113 : v111.toUInt32.toUInt16.toUInt32.toInt32 = v111 := by
            by_cases q9 : v111.toUInt32.toUInt16.toUInt32.toInt32 = v111
            · exact q9
            · rw [if_neg q9] at h; cases h
          rw [if_pos hk113] at h
          simp only [Option.some.injEq] at h
          subst h
          exact pE_ret (r := some (.int v111)) (mjRt1_c rfl rfl hk113) ⟨rfl, rfl⟩
