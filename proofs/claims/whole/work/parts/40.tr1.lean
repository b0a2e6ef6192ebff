def f195_isIn (p0 : Int64) (p1 : Int64) (p2 : Int64) (Z : mjZt) : Option Int32 :=
  if mjCmp .lt (lg_cmp p0 p1) 0 = true then
    some 0
  else
    if mjCmp .gt (lg_cmp p0 p2) 0 = true then
      some 0
    else
      some 1
theorem f195_isIn_ok {p0 : Int64} {p1 : Int64} {p2 : Int64} {Z : mjZt} {v9 : Int32} (h : f195_isIn p0 p1 p2 Z = some v9) : pG 195 0 (mjEnt [.long p0, .long p1, .long p2] (mjML 195)) [] (mjTo Z) (fun r M1 => r = some (.int v9) ∧ M1 = mjTo Z) := by
  unfold f195_isIn at h
  show pG 195 0 [some (.long p0), none, some (.long p1), none, some (.long p2), none] [] (mjTo Z) _
  refine pG_many 3 (pc1 := 3) (L1 := [some (.long p0), none, some (.long p1), none, some (.long p2), none]) (st1 := [.int (lg_cmp p0 p1)]) (M1 := mjTo Z) rfl ?_
  by_cases hc1 : mjCmp .lt (lg_cmp p0 p1) 0 = true
  · rw [if_pos hc1] at h
    refine pG_ift (t := 17) rfl rfl hc1 ?_
    refine pG_many 1 (pc1 := 18) (L1 := [some (.long p0), none, some (.long p1), none, some (.long p2), none]) (st1 := [.int 0]) (M1 := mjTo Z) rfl ?_
    simp only [Option.some.injEq] at h
    subst h
    exact pG_ret (r := some (.int 0)) rfl ⟨rfl, rfl⟩
  · rw [if_neg hc1] at h
    refine pG_iff (t := 17) rfl rfl hc1 ?_
    refine pG_many 3 (pc1 := 10) (L1 := [some (.long p0), none, some (.long p1), none, some (.long p2), none]) (st1 := [.int (lg_cmp p0 p2)]) (M1 := mjTo Z) rfl ?_
    by_cases hc2 : mjCmp .gt (lg_cmp p0 p2) 0 = true
    · rw [if_pos hc2] at h
      refine pG_ift (t := 17) rfl rfl hc2 ?_
      refine pG_many 1 (pc1 := 18) (L1 := [some (.long p0), none, some (.long p1), none, some (.long p2), none]) (st1 := [.int 0]) (M1 := mjTo Z) rfl ?_
      simp only [Option.some.injEq] at h
      subst h
      exact pG_ret (r := some (.int 0)) rfl ⟨rfl, rfl⟩
    · rw [if_neg hc2] at h
      refine pG_iff (t := 17) rfl rfl hc2 ?_
      refine pG_many 2 (pc1 := 18) (L1 := [some (.long p0), none, some (.long p1), none, some (.long p2), none]) (st1 := [.int 1]) (M1 := mjTo Z) rfl ?_
      simp only [Option.some.injEq] at h
      subst h
      exact pG_ret (r := some (.int 1)) rfl ⟨rfl, rfl⟩
def f196_truth (p0 : Int32) (Z : mjZt) : Option Int32 :=
  if mjCmp .eq p0 0 = true then
    some 0
  else
    some 1
theorem f196_truth_ok {p0 : Int32} {Z : mjZt} {v9 : Int32} (h : f196_truth p0 Z = some v9) : pG 196 0 (mjEnt [.int p0] (mjML 196)) [] (mjTo Z) (fun r M1 => r = some (.int v9) ∧ M1 = mjTo Z) := by
  unfold f196_truth at h
  show pG 196 0 [some (.int p0)] [] (mjTo Z) _
  refine pG_many 1 (pc1 := 1) (L1 := [some (.int p0)]) (st1 := [.int p0]) (M1 := mjTo Z) rfl ?_
  by_cases hc1 : mjCmp .eq p0 0 = true
  · rw [if_pos hc1] at h
    refine pG_ift (t := 8) rfl rfl hc1 ?_
    refine pG_many 1 (pc1 := 9) (L1 := [some (.int p0)]) (st1 := [.int 0]) (M1 := mjTo Z) rfl ?_
    simp only [Option.some.injEq] at h
    subst h
    exact pG_ret (r := some (.int 0)) rfl ⟨rfl, rfl⟩
  · rw [if_neg hc1] at h
    refine pG_iff (t := 8) rfl rfl hc1 ?_
    refine pG_many 2 (pc1 := 9) (L1 := [some (.int p0)]) (st1 := [.int 1]) (M1 := mjTo Z) rfl ?_
    simp only [Option.some.injEq] at h
    subst h
    exact pG_ret (r := some (.int 1)) rfl ⟨rfl, rfl⟩
def f197_holds1 (p0 : Int32) (p1 : Int32) (Z : mjZt) : Option Int32 :=
  if mjCmp .ne ((p0 >>> (p1 &&& 31)) &&& 1) 1 = true then
    some 0
  else
    some 1
theorem f197_holds1_ok {p0 : Int32} {p1 : Int32} {Z : mjZt} {v9 : Int32} (h : f197_holds1 p0 p1 Z = some v9) : pG 197 0 (mjEnt [.int p0, .int p1] (mjML 197)) [] (mjTo Z) (fun r M1 => r = some (.int v9) ∧ M1 = mjTo Z) := by
  unfold f197_holds1 at h
  show pG 197 0 [some (.int p0), some (.int p1)] [] (mjTo Z) _
  refine pG_many 6 (pc1 := 6) (L1 := [some (.int p0), some (.int p1)]) (st1 := [.int 1, .int ((p0 >>> (p1 &&& 31)) &&& 1)]) (M1 := mjTo Z) rfl ?_
  by_cases hc1 : mjCmp .ne ((p0 >>> (p1 &&& 31)) &&& 1) 1 = true
  · rw [if_pos hc1] at h
    refine pG_cmt (t := 13) rfl rfl hc1 ?_
    refine pG_many 1 (pc1 := 14) (L1 := [some (.int p0), some (.int p1)]) (st1 := [.int 0]) (M1 := mjTo Z) rfl ?_
    simp only [Option.some.injEq] at h
    subst h
    exact pG_ret (r := some (.int 0)) rfl ⟨rfl, rfl⟩
  · rw [if_neg hc1] at h
    refine pG_cmf (t := 13) rfl rfl hc1 ?_
    refine pG_many 2 (pc1 := 14) (L1 := [some (.int p0), some (.int p1)]) (st1 := [.int 1]) (M1 := mjTo Z) rfl ?_
    simp only [Option.some.injEq] at h
    subst h
    exact pG_ret (r := some (.int 1)) rfl ⟨rfl, rfl⟩
def f198_four_h3 : Nat → Int32 → Int32 → mjZt → Option (Unit × mjZt)
  | 0, _, _, _ => none
  | n + 1, x1, x2, Z =>
    if mjCmp .lt x2 0 = true then
      some ((), Z)
    else
      if mjIn (Z.1 211 1) 700 = true then
      mjLet (zSi Z 212 (mjIx (Z.1 211 1)) ((x1 >>> (x2 &&& 31)) &&& 255)) fun Z3 =>
      mjLet (zSi Z3 211 1 ((Z3.1 211 1) + 1)) fun Z4 =>
      f198_four_h3 n x1 (x2 + (-8)) Z4
      else none
theorem f198_four_h3_ok : ∀ (n : Nat) (x1 : Int32) (x2 : Int32) (Z : mjZt) (v9 : Unit) (Z9 : mjZt), f198_four_h3 n x1 x2 Z = some (v9, Z9) → pG 198 3 [some (.ref 211), some (.int x1), some (.int x2)] [] (mjTo Z) (fun r M1 => r = none ∧ M1 = mjTo Z9)
  | 0, x1, x2, Z, v9, Z9, h => by rw [f198_four_h3] at h; cases h
  | n + 1, x1, x2, Z, v9, Z9, h => by
      rw [f198_four_h3] at h
      refine pG_many 1 (pc1 := 4) (L1 := [some (.ref 211), some (.int x1), some (.int x2)]) (st1 := [.int x2]) (M1 := mjTo Z) rfl ?_
      by_cases hc1 : mjCmp .lt x2 0 = true
      · rw [if_pos hc1] at h
        refine pG_ift (t := 39) rfl rfl hc1 ?_
        simp only [Option.some.injEq, Prod.mk.injEq] at h
        obtain ⟨-, rfl⟩ := h
        exact pG_ret (r := none) rfl ⟨rfl, rfl⟩
      · rw [if_neg hc1] at h
        refine pG_iff (t := 39) rfl rfl hc1 ?_
        refine pG_many 1 (pc1 := 8) (L1 := [some (.ref 211), some (.int x1), some (.int x2)]) (st1 := [.ref 211]) (M1 := mjTo Z) rfl ?_
        refine pG_getR (ci := 12) (f := 0) (b := 212) rfl rfl rfl (by rfl) rfl ?_
        refine pG_many 1 (pc1 := 12) (L1 := [some (.ref 211), some (.int x1), some (.int x2)]) (st1 := [.ref 211, .ref 212]) (M1 := mjTo Z) rfl ?_
        refine pG_getI (ci := 12) (f := 1) rfl rfl (Or.inl rfl) (by rfl) ?_
        refine pG_many 5 (pc1 := 22) (L1 := [some (.ref 211), some (.int x1), some (.int x2)]) (st1 := [.int ((x1 >>> (x2 &&& 31)) &&& 255), .int (Z.1 211 1), .ref 212]) (M1 := mjTo Z) rfl ?_
        have hk2 : mjIn (Z.1 211 1) 700 = true := by
          by_cases q9 : mjIn (Z.1 211 1) 700 = true
          · exact q9
          · rw [if_neg q9] at h; cases h
        rw [if_pos hk2] at h
        refine pG_ias rfl (by rfl) hk2 (?_ : pG 198 23 [some (.ref 211), some (.int x1), some (.int x2)] [] (mjTo (zSi Z 212 (mjIx (Z.1 211 1)) ((x1 >>> (x2 &&& 31)) &&& 255))) _)
        rw [mjLet] at h
        generalize zSi Z 212 (mjIx (Z.1 211 1)) ((x1 >>> (x2 &&& 31)) &&& 255) = Z3 at h ⊢
        refine pG_many 2 (pc1 := 25) (L1 := [some (.ref 211), some (.int x1), some (.int x2)]) (st1 := [.ref 211, .ref 211]) (M1 := mjTo Z3) rfl ?_
        refine pG_getI (ci := 12) (f := 1) rfl rfl (Or.inl rfl) (by rfl) ?_
        refine pG_many 2 (pc1 := 30) (L1 := [some (.ref 211), some (.int x1), some (.int x2)]) (st1 := [.int ((Z3.1 211 1) + 1), .ref 211]) (M1 := mjTo Z3) rfl ?_
        refine pG_putI (ci := 12) (f := 1) rfl rfl rfl rfl (by rfl) ?_
        rw [mjLet] at h
        generalize zSi Z3 211 1 ((Z3.1 211 1) + 1) = Z4 at h ⊢
        refine pG_many 2 (pc1 := 3) (L1 := [some (.ref 211), some (.int x1), some (.int (x2 + (-8)))]) (st1 := []) (M1 := mjTo Z4) rfl ?_
        exact f198_four_h3_ok n x1 (x2 + (-8)) Z4 v9 Z9 h
def f198_four (p0 : Int32) (Z : mjZt) : Option (Unit × mjZt) :=
  f198_four_h3 mjF p0 24 Z
theorem f198_four_ok {p0 : Int32} {Z : mjZt} {v9 : Unit} {Z9 : mjZt} (h : f198_four p0 Z = some (v9, Z9)) : pG 198 0 (mjEnt [.ref 211, .int p0] (mjML 198)) [] (mjTo Z) (fun r M1 => r = none ∧ M1 = mjTo Z9) := by
  unfold f198_four at h
  show pG 198 0 [some (.ref 211), some (.int p0), none] [] (mjTo Z) _
  refine pG_many 2 (pc1 := 3) (L1 := [some (.ref 211), some (.int p0), some (.int 24)]) (st1 := []) (M1 := mjTo Z) rfl ?_
  exact f198_four_h3_ok mjF p0 24 Z v9 Z9 h
def f199_feed (p0 : Int32) (p1 : Int32) (p2 : Int32) (p3 : Int32) (p4 : Int32) (Z : mjZt) : Option (Int32 × mjZt) :=
  if mjCmp .le ((Z.1 211 1) + 20) 700 = true then
    mjBd (f198_four p0 Z) fun _ Z4 =>
    mjBd (f198_four p1 Z4) fun _ Z7 =>
    mjBd (f198_four p2 Z7) fun _ Z10 =>
    mjBd (f198_four p3 Z10) fun _ Z13 =>
    mjBd (f198_four p4 Z13) fun _ Z16 =>
    some (Z16.1 211 1, Z16)
  else
    some ((-1), Z)
theorem f199_feed_ok {p0 : Int32} {p1 : Int32} {p2 : Int32} {p3 : Int32} {p4 : Int32} {Z : mjZt} {v9 : Int32} {Z9 : mjZt} (h : f199_feed p0 p1 p2 p3 p4 Z = some (v9, Z9)) : pG 199 0 (mjEnt [.ref 211, .int p0, .int p1, .int p2, .int p3, .int p4] (mjML 199)) [] (mjTo Z) (fun r M1 => r = some (.int v9) ∧ M1 = mjTo Z9) := by
  unfold f199_feed at h
  show pG 199 0 [some (.ref 211), some (.int p0), some (.int p1), some (.int p2), some (.int p3), some (.int p4)] [] (mjTo Z) _
  refine pG_many 1 (pc1 := 1) (L1 := [some (.ref 211), some (.int p0), some (.int p1), some (.int p2), some (.int p3), some (.int p4)]) (st1 := [.ref 211]) (M1 := mjTo Z) rfl ?_
  refine pG_getI (ci := 12) (f := 1) rfl rfl (Or.inl rfl) (by rfl) ?_
  refine pG_many 3 (pc1 := 10) (L1 := [some (.ref 211), some (.int p0), some (.int p1), some (.int p2), some (.int p3), some (.int p4)]) (st1 := [.int 700, .int ((Z.1 211 1) + 20)]) (M1 := mjTo Z) rfl ?_
  by_cases hc1 : mjCmp .le ((Z.1 211 1) + 20) 700 = true
  · rw [if_pos hc1] at h
    refine pG_cmt (t := 15) rfl rfl hc1 ?_
    refine pG_many 2 (pc1 := 17) (L1 := [some (.ref 211), some (.int p0), some (.int p1), some (.int p2), some (.int p3), some (.int p4)]) (st1 := [.int p0, .ref 211]) (M1 := mjTo Z) rfl ?_
    cases hq2 : f198_four p0 Z with
    | none => rw [hq2] at h; cases h
    | some w =>
      obtain ⟨v3, Z4⟩ := w
      rw [hq2, mjBd_some] at h
      refine pG_callV (k2 := 198) (As := [.ref 211, .int p0]) (rest := []) rfl rfl rfl rfl rfl (by rfl) (by decide) (f198_four_ok hq2) ?_
      rintro r9 M9 ⟨rfl, rfl⟩
      show pG 199 20 [some (.ref 211), some (.int p0), some (.int p1), some (.int p2), some (.int p3), some (.int p4)] [] (mjTo Z4) _
      refine pG_many 2 (pc1 := 22) (L1 := [some (.ref 211), some (.int p0), some (.int p1), some (.int p2), some (.int p3), some (.int p4)]) (st1 := [.int p1, .ref 211]) (M1 := mjTo Z4) rfl ?_
      cases hq5 : f198_four p1 Z4 with
      | none => rw [hq5] at h; cases h
      | some w =>
        obtain ⟨v6, Z7⟩ := w
        rw [hq5, mjBd_some] at h
        refine pG_callV (k2 := 198) (As := [.ref 211, .int p1]) (rest := []) rfl rfl rfl rfl rfl (by rfl) (by decide) (f198_four_ok hq5) ?_
        rintro r9 M9 ⟨rfl, rfl⟩
        show pG 199 25 [some (.ref 211), some (.int p0), some (.int p1), some (.int p2), some (.int p3), some (.int p4)] [] (mjTo Z7) _
        refine pG_many 2 (pc1 := 27) (L1 := [some (.ref 211), some (.int p0), some (.int p1), some (.int p2), some (.int p3), some (.int p4)]) (st1 := [.int p2, .ref 211]) (M1 := mjTo Z7) rfl ?_
        cases hq8 : f198_four p2 Z7 with
        | none => rw [hq8] at h; cases h
        | some w =>
          obtain ⟨v9, Z10⟩ := w
          rw [hq8, mjBd_some] at h
          refine pG_callV (k2 := 198) (As := [.ref 211, .int p2]) (rest := []) rfl rfl rfl rfl rfl (by rfl) (by decide) (f198_four_ok hq8) ?_
          rintro r9 M9 ⟨rfl, rfl⟩
          show pG 199 30 [some (.ref 211), some (.int p0), some (.int p1), some (.int p2), some (.int p3), some (.int p4)] [] (mjTo Z10) _
          refine pG_many 2 (pc1 := 33) (L1 := [some (.ref 211), some (.int p0), some (.int p1), some (.int p2), some (.int p3), some (.int p4)]) (st1 := [.int p3, .ref 211]) (M1 := mjTo Z10) rfl ?_
          cases hq11 : f198_four p3 Z10 with
          | none => rw [hq11] at h; cases h
          | some w =>
            obtain ⟨v12, Z13⟩ := w
            rw [hq11, mjBd_some] at h
            refine pG_callV (k2 := 198) (As := [.ref 211, .int p3]) (rest := []) rfl rfl rfl rfl rfl (by rfl) (by decide) (f198_four_ok hq11) ?_
            rintro r9 M9 ⟨rfl, rfl⟩
            show pG 199 36 [some (.ref 211), some (.int p0), some (.int p1), some (.int p2), some (.int p3), some (.int p4)] [] (mjTo Z13) _
            refine pG_many 2 (pc1 := 39) (L1 := [some (.ref 211), some (.int p0), some (.int p1), some (.int p2), some (.int p3), some (.int p4)]) (st1 := [.int p4, .ref 211]) (M1 := mjTo Z13) rfl ?_
            cases hq14 : f198_four p4 Z13 with
            | none => rw [hq14] at h; cases h
            | some w =>
              obtain ⟨v15, Z16⟩ := w
              rw [hq14, mjBd_some] at h
              refine pG_callV (k2 := 198) (As := [.ref 211, .int p4]) (rest := []) rfl rfl rfl rfl rfl (by rfl) (by decide) (f198_four_ok hq14) ?_
              rintro r9 M9 ⟨rfl, rfl⟩
              show pG 199 42 [some (.ref 211), some (.int p0), some (.int p1), some (.int p2), some (.int p3), some (.int p4)] [] (mjTo Z16) _
              refine pG_many 1 (pc1 := 43) (L1 := [some (.ref 211), some (.int p0), some (.int p1), some (.int p2), some (.int p3), some (.int p4)]) (st1 := [.ref 211]) (M1 := mjTo Z16) rfl ?_
              refine pG_getI (ci := 12) (f := 1) rfl rfl (Or.inl rfl) (by rfl) ?_
              simp only [Option.some.injEq, Prod.mk.injEq] at h
              obtain ⟨rfl, rfl⟩ := h
              exact pG_ret (r := some (.int (Z16.1 211 1))) rfl ⟨rfl, rfl⟩
  · rw [if_neg hc1] at h
    refine pG_cmf (t := 15) rfl rfl hc1 ?_
    refine pG_many 1 (pc1 := 14) (L1 := [some (.ref 211), some (.int p0), some (.int p1), some (.int p2), some (.int p3), some (.int p4)]) (st1 := [.int ((-1))]) (M1 := mjTo Z) rfl ?_
    simp only [Option.some.injEq, Prod.mk.injEq] at h
    obtain ⟨rfl, rfl⟩ := h
    exact pG_ret (r := some (.int ((-1)))) rfl ⟨rfl, rfl⟩
def f200_end (p0 : Int32) (Z : mjZt) : Option (Int32 × mjZt) :=
  mjBp (f195_isIn (Int32.toInt64 p0) 0 (Int32.toInt64 (Z.1 211 1)) Z) fun v2 =>
  if mjCmp .ne v2 0 = true then
    mjLet (zSi Z 211 1 p0) fun Z5 =>
    some (p0, Z5)
  else
    some ((-1), Z)
theorem f200_end_ok {p0 : Int32} {Z : mjZt} {v9 : Int32} {Z9 : mjZt} (h : f200_end p0 Z = some (v9, Z9)) : pG 200 0 (mjEnt [.ref 211, .int p0] (mjML 200)) [] (mjTo Z) (fun r M1 => r = some (.int v9) ∧ M1 = mjTo Z9) := by
  unfold f200_end at h
  show pG 200 0 [some (.ref 211), some (.int p0)] [] (mjTo Z) _
  refine pG_many 4 (pc1 := 4) (L1 := [some (.ref 211), some (.int p0)]) (st1 := [.ref 211, .long 0, .long (Int32.toInt64 p0)]) (M1 := mjTo Z) rfl ?_
  refine pG_getI (ci := 12) (f := 1) rfl rfl (Or.inl rfl) (by rfl) ?_
  refine pG_many 1 (pc1 := 8) (L1 := [some (.ref 211), some (.int p0)]) (st1 := [.long (Int32.toInt64 (Z.1 211 1)), .long 0, .long (Int32.toInt64 p0)]) (M1 := mjTo Z) rfl ?_
  cases hq1 : f195_isIn (Int32.toInt64 p0) 0 (Int32.toInt64 (Z.1 211 1)) Z with
  | none => rw [hq1] at h; cases h
  | some v2 =>
    rw [hq1, mjBp_some] at h
    refine pG_call (k2 := 195) (As := [.long (Int32.toInt64 p0), .long 0, .long (Int32.toInt64 (Z.1 211 1))]) (rest := []) rfl (by decide) (f195_isIn_ok hq1) ?_
    rintro r9 M9 ⟨rfl, rfl⟩
    show pG 200 11 [some (.ref 211), some (.int p0)] [.int v2] (mjTo Z) _
    by_cases hc4 : mjCmp .ne v2 0 = true
    · rw [if_pos hc4] at h
      refine pG_ift (t := 16) rfl rfl hc4 ?_
      refine pG_many 2 (pc1 := 18) (L1 := [some (.ref 211), some (.int p0)]) (st1 := [.int p0, .ref 211]) (M1 := mjTo Z) rfl ?_
      refine pG_putI (ci := 12) (f := 1) rfl rfl rfl rfl (by rfl) ?_
      rw [mjLet] at h
      generalize zSi Z 211 1 p0 = Z5 at h ⊢
      refine pG_many 1 (pc1 := 22) (L1 := [some (.ref 211), some (.int p0)]) (st1 := [.int p0]) (M1 := mjTo Z5) rfl ?_
      simp only [Option.some.injEq, Prod.mk.injEq] at h
      obtain ⟨rfl, rfl⟩ := h
      exact pG_ret (r := some (.int p0)) rfl ⟨rfl, rfl⟩
    · rw [if_neg hc4] at h
      refine pG_iff (t := 16) rfl rfl hc4 ?_
      refine pG_many 1 (pc1 := 15) (L1 := [some (.ref 211), some (.int p0)]) (st1 := [.int ((-1))]) (M1 := mjTo Z) rfl ?_
      simp only [Option.some.injEq, Prod.mk.injEq] at h
      obtain ⟨rfl, rfl⟩ := h
      exact pG_ret (r := some (.int ((-1)))) rfl ⟨rfl, rfl⟩
def f201_here (p0 : Int32) (Z : mjZt) : Option Int32 :=
  if mjCmp .ge ((Z.1 211 5) + p0) (Z.1 211 4) = true then
    some ((-1))
  else
    if mjIn ((Z.1 211 5) + p0) 700 = true then
    some (Z.1 212 (mjIx ((Z.1 211 5) + p0)))
    else none
theorem f201_here_ok {p0 : Int32} {Z : mjZt} {v9 : Int32} (h : f201_here p0 Z = some v9) : pG 201 0 (mjEnt [.ref 211, .int p0] (mjML 201)) [] (mjTo Z) (fun r M1 => r = some (.int v9) ∧ M1 = mjTo Z) := by
  unfold f201_here at h
  show pG 201 0 [some (.ref 211), some (.int p0)] [] (mjTo Z) _
  refine pG_many 1 (pc1 := 1) (L1 := [some (.ref 211), some (.int p0)]) (st1 := [.ref 211]) (M1 := mjTo Z) rfl ?_
  refine pG_getI (ci := 12) (f := 5) rfl rfl (Or.inl rfl) (by rfl) ?_
  refine pG_many 3 (pc1 := 7) (L1 := [some (.ref 211), some (.int p0)]) (st1 := [.ref 211, .int ((Z.1 211 5) + p0)]) (M1 := mjTo Z) rfl ?_
  refine pG_getI (ci := 12) (f := 4) rfl rfl (Or.inl rfl) (by rfl) ?_
  by_cases hc1 : mjCmp .ge ((Z.1 211 5) + p0) (Z.1 211 4) = true
  · rw [if_pos hc1] at h
    refine pG_cmt (t := 27) rfl rfl hc1 ?_
    refine pG_many 1 (pc1 := 28) (L1 := [some (.ref 211), some (.int p0)]) (st1 := [.int ((-1))]) (M1 := mjTo Z) rfl ?_
    simp only [Option.some.injEq] at h
    subst h
    exact pG_ret (r := some (.int ((-1)))) rfl ⟨rfl, rfl⟩
  · rw [if_neg hc1] at h
    refine pG_cmf (t := 27) rfl rfl hc1 ?_
    refine pG_many 1 (pc1 := 14) (L1 := [some (.ref 211), some (.int p0)]) (st1 := [.ref 211]) (M1 := mjTo Z) rfl ?_
    refine pG_getR (ci := 12) (f := 0) (b := 212) rfl rfl rfl (by rfl) rfl ?_
    refine pG_many 1 (pc1 := 18) (L1 := [some (.ref 211), some (.int p0)]) (st1 := [.ref 211, .ref 212]) (M1 := mjTo Z) rfl ?_
    refine pG_getI (ci := 12) (f := 5) rfl rfl (Or.inl rfl) (by rfl) ?_
    refine pG_many 2 (pc1 := 23) (L1 := [some (.ref 211), some (.int p0)]) (st1 := [.int ((Z.1 211 5) + p0), .ref 212]) (M1 := mjTo Z) rfl ?_
    have hk2 : mjIn ((Z.1 211 5) + p0) 700 = true := by
      by_cases q9 : mjIn ((Z.1 211 5) + p0) 700 = true
      · exact q9
      · rw [if_neg q9] at h; cases h
    rw [if_pos hk2] at h
    refine pG_ial rfl (by rfl) hk2 ?_
    refine pG_many 1 (pc1 := 28) (L1 := [some (.ref 211), some (.int p0)]) (st1 := [.int (Z.1 212 (mjIx ((Z.1 211 5) + p0)))]) (M1 := mjTo Z) rfl ?_
    simp only [Option.some.injEq] at h
    subst h
    exact pG_ret (r := some (.int (Z.1 212 (mjIx ((Z.1 211 5) + p0))))) rfl ⟨rfl, rfl⟩
def f202_isLetter (p0 : Int32) (Z : mjZt) : Option Int32 :=
  if mjCmp .lt p0 97 = true then
    some 0
  else
    if mjCmp .gt p0 122 = true then
      some 0
    else
      some 1
theorem f202_isLetter_ok {p0 : Int32} {Z : mjZt} {v9 : Int32} (h : f202_isLetter p0 Z = some v9) : pG 202 0 (mjEnt [.int p0] (mjML 202)) [] (mjTo Z) (fun r M1 => r = some (.int v9) ∧ M1 = mjTo Z) := by
  unfold f202_isLetter at h
  show pG 202 0 [some (.int p0)] [] (mjTo Z) _
  refine pG_many 2 (pc1 := 3) (L1 := [some (.int p0)]) (st1 := [.int 97, .int p0]) (M1 := mjTo Z) rfl ?_
  by_cases hc1 : mjCmp .lt p0 97 = true
  · rw [if_pos hc1] at h
    refine pG_cmt (t := 16) rfl rfl hc1 ?_
    refine pG_many 1 (pc1 := 17) (L1 := [some (.int p0)]) (st1 := [.int 0]) (M1 := mjTo Z) rfl ?_
    simp only [Option.some.injEq] at h
    subst h
    exact pG_ret (r := some (.int 0)) rfl ⟨rfl, rfl⟩
  · rw [if_neg hc1] at h
    refine pG_cmf (t := 16) rfl rfl hc1 ?_
    refine pG_many 2 (pc1 := 9) (L1 := [some (.int p0)]) (st1 := [.int 122, .int p0]) (M1 := mjTo Z) rfl ?_
    by_cases hc2 : mjCmp .gt p0 122 = true
    · rw [if_pos hc2] at h
      refine pG_cmt (t := 16) rfl rfl hc2 ?_
      refine pG_many 1 (pc1 := 17) (L1 := [some (.int p0)]) (st1 := [.int 0]) (M1 := mjTo Z) rfl ?_
      simp only [Option.some.injEq] at h
      subst h
      exact pG_ret (r := some (.int 0)) rfl ⟨rfl, rfl⟩
    · rw [if_neg hc2] at h
      refine pG_cmf (t := 16) rfl rfl hc2 ?_
      refine pG_many 2 (pc1 := 17) (L1 := [some (.int p0)]) (st1 := [.int 1]) (M1 := mjTo Z) rfl ?_
      simp only [Option.some.injEq] at h
      subst h
      exact pG_ret (r := some (.int 1)) rfl ⟨rfl, rfl⟩
def f203_isDigit (p0 : Int32) (Z : mjZt) : Option Int32 :=
  if mjCmp .lt p0 48 = true then
    some 0
  else
    if mjCmp .gt p0 57 = true then
      some 0
    else
      some 1
theorem f203_isDigit_ok {p0 : Int32} {Z : mjZt} {v9 : Int32} (h : f203_isDigit p0 Z = some v9) : pG 203 0 (mjEnt [.int p0] (mjML 203)) [] (mjTo Z) (fun r M1 => r = some (.int v9) ∧ M1 = mjTo Z) := by
  unfold f203_isDigit at h
  show pG 203 0 [some (.int p0)] [] (mjTo Z) _
  refine pG_many 2 (pc1 := 3) (L1 := [some (.int p0)]) (st1 := [.int 48, .int p0]) (M1 := mjTo Z) rfl ?_
  by_cases hc1 : mjCmp .lt p0 48 = true
  · rw [if_pos hc1] at h
    refine pG_cmt (t := 16) rfl rfl hc1 ?_
    refine pG_many 1 (pc1 := 17) (L1 := [some (.int p0)]) (st1 := [.int 0]) (M1 := mjTo Z) rfl ?_
    simp only [Option.some.injEq] at h
    subst h
    exact pG_ret (r := some (.int 0)) rfl ⟨rfl, rfl⟩
  · rw [if_neg hc1] at h
    refine pG_cmf (t := 16) rfl rfl hc1 ?_
    refine pG_many 2 (pc1 := 9) (L1 := [some (.int p0)]) (st1 := [.int 57, .int p0]) (M1 := mjTo Z) rfl ?_
    by_cases hc2 : mjCmp .gt p0 57 = true
    · rw [if_pos hc2] at h
      refine pG_cmt (t := 16) rfl rfl hc2 ?_
      refine pG_many 1 (pc1 := 17) (L1 := [some (.int p0)]) (st1 := [.int 0]) (M1 := mjTo Z) rfl ?_
      simp only [Option.some.injEq] at h
      subst h
      exact pG_ret (r := some (.int 0)) rfl ⟨rfl, rfl⟩
    · rw [if_neg hc2] at h
      refine pG_cmf (t := 16) rfl rfl hc2 ?_
      refine pG_many 2 (pc1 := 17) (L1 := [some (.int p0)]) (st1 := [.int 1]) (M1 := mjTo Z) rfl ?_
      simp only [Option.some.injEq] at h
      subst h
      exact pG_ret (r := some (.int 1)) rfl ⟨rfl, rfl⟩
def f204_isSign (p0 : Int32) (Z : mjZt) : Option Int32 :=
  if mjCmp .eq p0 59 = true then
    some 1
  else
    if mjCmp .eq p0 43 = true then
      some 1
    else
      if mjCmp .eq p0 45 = true then
        some 1
      else
        if mjCmp .eq p0 42 = true then
          some 1
        else
          if mjCmp .eq p0 40 = true then
            some 1
          else
            if mjCmp .eq p0 41 = true then
              some 1
            else
              if mjCmp .eq p0 123 = true then
                some 1
              else
                if mjCmp .eq p0 125 = true then
                  some 1
                else
                  if mjCmp .eq p0 60 = true then
                    some 1
                  else
                    if mjCmp .eq p0 62 = true then
                      some 1
                    else
                      if mjCmp .ne p0 61 = true then
                        some 0
                      else
                        some 1
theorem f204_isSign_ok {p0 : Int32} {Z : mjZt} {v9 : Int32} (h : f204_isSign p0 Z = some v9) : pG 204 0 (mjEnt [.int p0] (mjML 204)) [] (mjTo Z) (fun r M1 => r = some (.int v9) ∧ M1 = mjTo Z) := by
  unfold f204_isSign at h
  show pG 204 0 [some (.int p0)] [] (mjTo Z) _
  refine pG_many 2 (pc1 := 3) (L1 := [some (.int p0)]) (st1 := [.int 59, .int p0]) (M1 := mjTo Z) rfl ?_
  by_cases hc1 : mjCmp .eq p0 59 = true
  · rw [if_pos hc1] at h
    refine pG_cmt (t := 66) rfl rfl hc1 ?_
    refine pG_many 2 (pc1 := 71) (L1 := [some (.int p0)]) (st1 := [.int 1]) (M1 := mjTo Z) rfl ?_
    simp only [Option.some.injEq] at h
    subst h
    exact pG_ret (r := some (.int 1)) rfl ⟨rfl, rfl⟩
  · rw [if_neg hc1] at h
    refine pG_cmf (t := 66) rfl rfl hc1 ?_
    refine pG_many 2 (pc1 := 9) (L1 := [some (.int p0)]) (st1 := [.int 43, .int p0]) (M1 := mjTo Z) rfl ?_
    by_cases hc2 : mjCmp .eq p0 43 = true
    · rw [if_pos hc2] at h
      refine pG_cmt (t := 66) rfl rfl hc2 ?_
      refine pG_many 2 (pc1 := 71) (L1 := [some (.int p0)]) (st1 := [.int 1]) (M1 := mjTo Z) rfl ?_
      simp only [Option.some.injEq] at h
      subst h
      exact pG_ret (r := some (.int 1)) rfl ⟨rfl, rfl⟩
    · rw [if_neg hc2] at h
      refine pG_cmf (t := 66) rfl rfl hc2 ?_
      refine pG_many 2 (pc1 := 15) (L1 := [some (.int p0)]) (st1 := [.int 45, .int p0]) (M1 := mjTo Z) rfl ?_
      by_cases hc3 : mjCmp .eq p0 45 = true
      · rw [if_pos hc3] at h
        refine pG_cmt (t := 66) rfl rfl hc3 ?_
        refine pG_many 2 (pc1 := 71) (L1 := [some (.int p0)]) (st1 := [.int 1]) (M1 := mjTo Z) rfl ?_
        simp only [Option.some.injEq] at h
        subst h
        exact pG_ret (r := some (.int 1)) rfl ⟨rfl, rfl⟩
      · rw [if_neg hc3] at h
        refine pG_cmf (t := 66) rfl rfl hc3 ?_
        refine pG_many 2 (pc1 := 21) (L1 := [some (.int p0)]) (st1 := [.int 42, .int p0]) (M1 := mjTo Z) rfl ?_
        by_cases hc4 : mjCmp .eq p0 42 = true
        · rw [if_pos hc4] at h
          refine pG_cmt (t := 66) rfl rfl hc4 ?_
          refine pG_many 2 (pc1 := 71) (L1 := [some (.int p0)]) (st1 := [.int 1]) (M1 := mjTo Z) rfl ?_
          simp only [Option.some.injEq] at h
          subst h
          exact pG_ret (r := some (.int 1)) rfl ⟨rfl, rfl⟩
        · rw [if_neg hc4] at h
          refine pG_cmf (t := 66) rfl rfl hc4 ?_
          refine pG_many 2 (pc1 := 27) (L1 := [some (.int p0)]) (st1 := [.int 40, .int p0]) (M1 := mjTo Z) rfl ?_
          by_cases hc5 : mjCmp .eq p0 40 = true
          · rw [if_pos hc5] at h
            refine pG_cmt (t := 66) rfl rfl hc5 ?_
            refine pG_many 2 (pc1 := 71) (L1 := [some (.int p0)]) (st1 := [.int 1]) (M1 := mjTo Z) rfl ?_
            simp only [Option.some.injEq] at h
            subst h
            exact pG_ret (r := some (.int 1)) rfl ⟨rfl, rfl⟩
          · rw [if_neg hc5] at h
            refine pG_cmf (t := 66) rfl rfl hc5 ?_
            refine pG_many 2 (pc1 := 33) (L1 := [some (.int p0)]) (st1 := [.int 41, .int p0]) (M1 := mjTo Z) rfl ?_
            by_cases hc6 : mjCmp .eq p0 41 = true
            · rw [if_pos hc6] at h
              refine pG_cmt (t := 66) rfl rfl hc6 ?_
              refine pG_many 2 (pc1 := 71) (L1 := [some (.int p0)]) (st1 := [.int 1]) (M1 := mjTo Z) rfl ?_
              simp only [Option.some.injEq] at h
              subst h
              exact pG_ret (r := some (.int 1)) rfl ⟨rfl, rfl⟩
            · rw [if_neg hc6] at h
              refine pG_cmf (t := 66) rfl rfl hc6 ?_
              refine pG_many 2 (pc1 := 39) (L1 := [some (.int p0)]) (st1 := [.int 123, .int p0]) (M1 := mjTo Z) rfl ?_
              by_cases hc7 : mjCmp .eq p0 123 = true
              · rw [if_pos hc7] at h
                refine pG_cmt (t := 66) rfl rfl hc7 ?_
                refine pG_many 2 (pc1 := 71) (L1 := [some (.int p0)]) (st1 := [.int 1]) (M1 := mjTo Z) rfl ?_
                simp only [Option.some.injEq] at h
                subst h
                exact pG_ret (r := some (.int 1)) rfl ⟨rfl, rfl⟩
              · rw [if_neg hc7] at h
                refine pG_cmf (t := 66) rfl rfl hc7 ?_
                refine pG_many 2 (pc1 := 45) (L1 := [some (.int p0)]) (st1 := [.int 125, .int p0]) (M1 := mjTo Z) rfl ?_
                by_cases hc8 : mjCmp .eq p0 125 = true
                · rw [if_pos hc8] at h
                  refine pG_cmt (t := 66) rfl rfl hc8 ?_
                  refine pG_many 2 (pc1 := 71) (L1 := [some (.int p0)]) (st1 := [.int 1]) (M1 := mjTo Z) rfl ?_
                  simp only [Option.some.injEq] at h
                  subst h
                  exact pG_ret (r := some (.int 1)) rfl ⟨rfl, rfl⟩
                · rw [if_neg hc8] at h
                  refine pG_cmf (t := 66) rfl rfl hc8 ?_
                  refine pG_many 2 (pc1 := 51) (L1 := [some (.int p0)]) (st1 := [.int 60, .int p0]) (M1 := mjTo Z) rfl ?_
                  by_cases hc9 : mjCmp .eq p0 60 = true
                  · rw [if_pos hc9] at h
                    refine pG_cmt (t := 66) rfl rfl hc9 ?_
                    refine pG_many 2 (pc1 := 71) (L1 := [some (.int p0)]) (st1 := [.int 1]) (M1 := mjTo Z) rfl ?_
                    simp only [Option.some.injEq] at h
                    subst h
                    exact pG_ret (r := some (.int 1)) rfl ⟨rfl, rfl⟩
                  · rw [if_neg hc9] at h
                    refine pG_cmf (t := 66) rfl rfl hc9 ?_
                    refine pG_many 2 (pc1 := 57) (L1 := [some (.int p0)]) (st1 := [.int 62, .int p0]) (M1 := mjTo Z) rfl ?_
                    by_cases hc10 : mjCmp .eq p0 62 = true
                    · rw [if_pos hc10] at h
                      refine pG_cmt (t := 66) rfl rfl hc10 ?_
                      refine pG_many 2 (pc1 := 71) (L1 := [some (.int p0)]) (st1 := [.int 1]) (M1 := mjTo Z) rfl ?_
                      simp only [Option.some.injEq] at h
                      subst h
                      exact pG_ret (r := some (.int 1)) rfl ⟨rfl, rfl⟩
                    · rw [if_neg hc10] at h
                      refine pG_cmf (t := 66) rfl rfl hc10 ?_
                      refine pG_many 2 (pc1 := 63) (L1 := [some (.int p0)]) (st1 := [.int 61, .int p0]) (M1 := mjTo Z) rfl ?_
                      by_cases hc11 : mjCmp .ne p0 61 = true
                      · rw [if_pos hc11] at h
                        refine pG_cmt (t := 70) rfl rfl hc11 ?_
                        refine pG_many 1 (pc1 := 71) (L1 := [some (.int p0)]) (st1 := [.int 0]) (M1 := mjTo Z) rfl ?_
                        simp only [Option.some.injEq] at h
                        subst h
                        exact pG_ret (r := some (.int 0)) rfl ⟨rfl, rfl⟩
                      · rw [if_neg hc11] at h
                        refine pG_cmf (t := 70) rfl rfl hc11 ?_
                        refine pG_many 2 (pc1 := 71) (L1 := [some (.int p0)]) (st1 := [.int 1]) (M1 := mjTo Z) rfl ?_
                        simp only [Option.some.injEq] at h
                        subst h
                        exact pG_ret (r := some (.int 1)) rfl ⟨rfl, rfl⟩
def f205_goOn_j214 (x1 : Int32) (s1 : Int32) (Z : mjZt) : Option (Unit × mjZt) :=
  mjLet (zSi Z 211 7 s1) fun Z29 =>
  mjLet (zSi Z29 211 8 x1) fun Z30 =>
  mjLet (zSi Z30 211 5 ((Z30.1 211 5) + 1)) fun Z31 =>
  some ((), Z31)
theorem f205_goOn_j214_ok (x1 : Int32) (s1 : Int32) (d2 : Option Value) (Z : mjZt) (v9 : Unit) (Z9 : mjZt) (h : f205_goOn_j214 x1 s1 Z = some (v9, Z9)) : pG 205 214 [some (.ref 211), some (.int x1), d2] [.int s1, .ref 211] (mjTo Z) (fun r M1 => r = none ∧ M1 = mjTo Z9) := by
  unfold f205_goOn_j214 at h
  refine pG_putI (ci := 12) (f := 7) rfl rfl rfl rfl (by rfl) ?_
  rw [mjLet] at h
  generalize zSi Z 211 7 s1 = Z29 at h ⊢
  refine pG_many 2 (pc1 := 219) (L1 := [some (.ref 211), some (.int x1), d2]) (st1 := [.int x1, .ref 211]) (M1 := mjTo Z29) rfl ?_
  refine pG_putI (ci := 12) (f := 8) rfl rfl rfl rfl (by rfl) ?_
  rw [mjLet] at h
  generalize zSi Z29 211 8 x1 = Z30 at h ⊢
  refine pG_many 4 (pc1 := 226) (L1 := [some (.ref 211), some (.int x1), some (.int 1)]) (st1 := [.ref 211, .ref 211]) (M1 := mjTo Z30) rfl ?_
  refine pG_getI (ci := 12) (f := 5) rfl rfl (Or.inl rfl) (by rfl) ?_
  refine pG_many 2 (pc1 := 231) (L1 := [some (.ref 211), some (.int x1), some (.int 1)]) (st1 := [.int ((Z30.1 211 5) + 1), .ref 211]) (M1 := mjTo Z30) rfl ?_
  refine pG_putI (ci := 12) (f := 5) rfl rfl rfl rfl (by rfl) ?_
  rw [mjLet] at h
  generalize zSi Z30 211 5 ((Z30.1 211 5) + 1) = Z31 at h ⊢
  simp only [Option.some.injEq, Prod.mk.injEq] at h
  obtain ⟨-, rfl⟩ := h
  exact pG_ret (r := none) rfl ⟨rfl, rfl⟩
def f205_goOn_j195 (x2 : Int32) (s1 : Int32) (Z : mjZt) : Option (Unit × mjZt) :=
  mjLet (zSi Z 211 7 s1) fun Z40 =>
  mjLet (zSi Z40 211 5 ((Z40.1 211 5) + x2)) fun Z41 =>
  some ((), Z41)
theorem f205_goOn_j195_ok (x2 : Int32) (s1 : Int32) (d1 : Option Value) (Z : mjZt) (v9 : Unit) (Z9 : mjZt) (h : f205_goOn_j195 x2 s1 Z = some (v9, Z9)) : pG 205 195 [some (.ref 211), d1, some (.int x2)] [.int s1, .ref 211] (mjTo Z) (fun r M1 => r = none ∧ M1 = mjTo Z9) := by
  unfold f205_goOn_j195 at h
  refine pG_putI (ci := 12) (f := 7) rfl rfl rfl rfl (by rfl) ?_
  rw [mjLet] at h
  generalize zSi Z 211 7 s1 = Z40 at h ⊢
  refine pG_many 3 (pc1 := 226) (L1 := [some (.ref 211), d1, some (.int x2)]) (st1 := [.ref 211, .ref 211]) (M1 := mjTo Z40) rfl ?_
  refine pG_getI (ci := 12) (f := 5) rfl rfl (Or.inl rfl) (by rfl) ?_
  refine pG_many 2 (pc1 := 231) (L1 := [some (.ref 211), d1, some (.int x2)]) (st1 := [.int ((Z40.1 211 5) + x2), .ref 211]) (M1 := mjTo Z40) rfl ?_
  refine pG_putI (ci := 12) (f := 5) rfl rfl rfl rfl (by rfl) ?_
  rw [mjLet] at h
  generalize zSi Z40 211 5 ((Z40.1 211 5) + x2) = Z41 at h ⊢
  simp only [Option.some.injEq, Prod.mk.injEq] at h
  obtain ⟨-, rfl⟩ := h
  exact pG_ret (r := none) rfl ⟨rfl, rfl⟩
def f205_goOn_h142 : Nat → Int32 → mjZt → Option (Unit × mjZt)
  | 0, _, _ => none
  | n + 1, x2, Z =>
    mjBp (f201_here x2 Z) fun v33 =>
    mjBp (f203_isDigit v33 Z) fun v36 =>
    if mjCmp .eq v36 0 = true then
      if mjCmp .le x2 4 = true then
        f205_goOn_j195 x2 2 Z
      else
        f205_goOn_j195 x2 4 Z
    else
      if mjCmp .ge x2 4 = true then
        f205_goOn_h142 n (x2 + 1) Z
      else
        mjLet (zSi Z 211 8 (((10 * (Z.1 211 8)) + v33) - 48)) fun Z46 =>
        f205_goOn_h142 n (x2 + 1) Z46
theorem f205_goOn_h142_ok : ∀ (n : Nat) (x2 : Int32) (d1 : Option Value) (Z : mjZt) (v9 : Unit) (Z9 : mjZt), f205_goOn_h142 n x2 Z = some (v9, Z9) → pG 205 142 [some (.ref 211), d1, some (.int x2)] [] (mjTo Z) (fun r M1 => r = none ∧ M1 = mjTo Z9)
  | 0, x2, d1, Z, v9, Z9, h => by rw [f205_goOn_h142] at h; cases h
  | n + 1, x2, d1, Z, v9, Z9, h => by
      rw [f205_goOn_h142] at h
      refine pG_many 2 (pc1 := 144) (L1 := [some (.ref 211), d1, some (.int x2)]) (st1 := [.int x2, .ref 211]) (M1 := mjTo Z) rfl ?_
      cases hq32 : f201_here x2 Z with
      | none => rw [hq32] at h; cases h
      | some v33 =>
        rw [hq32, mjBp_some] at h
        refine pG_callV (k2 := 201) (As := [.ref 211, .int x2]) (rest := []) rfl rfl rfl rfl rfl (by rfl) (by decide) (f201_here_ok hq32) ?_
        rintro r9 M9 ⟨rfl, rfl⟩
        show pG 205 147 [some (.ref 211), d1, some (.int x2)] [.int v33] (mjTo Z) _
        cases hq35 : f203_isDigit v33 Z with
        | none => rw [hq35] at h; cases h
        | some v36 =>
          rw [hq35, mjBp_some] at h
          refine pG_call (k2 := 203) (As := [.int v33]) (rest := []) rfl (by decide) (f203_isDigit_ok hq35) ?_
          rintro r9 M9 ⟨rfl, rfl⟩
          show pG 205 150 [some (.ref 211), d1, some (.int x2)] [.int v36] (mjTo Z) _
          by_cases hc38 : mjCmp .eq v36 0 = true
          · rw [if_pos hc38] at h
            refine pG_ift (t := 184) rfl rfl hc38 ?_
            refine pG_many 3 (pc1 := 187) (L1 := [some (.ref 211), d1, some (.int x2)]) (st1 := [.int 4, .int x2, .ref 211]) (M1 := mjTo Z) rfl ?_
            by_cases hc39 : mjCmp .le x2 4 = true
            · rw [if_pos hc39] at h
              refine pG_cmt (t := 194) rfl rfl hc39 ?_
              refine pG_many 1 (pc1 := 195) (L1 := [some (.ref 211), d1, some (.int x2)]) (st1 := [.int 2, .ref 211]) (M1 := mjTo Z) rfl ?_
              exact f205_goOn_j195_ok x2 2 d1 Z v9 Z9 h
            · rw [if_neg hc39] at h
              refine pG_cmf (t := 194) rfl rfl hc39 ?_
              refine pG_many 2 (pc1 := 195) (L1 := [some (.ref 211), d1, some (.int x2)]) (st1 := [.int 4, .ref 211]) (M1 := mjTo Z) rfl ?_
              exact f205_goOn_j195_ok x2 4 d1 Z v9 Z9 h
          · rw [if_neg hc38] at h
            refine pG_iff (t := 184) rfl rfl hc38 ?_
            refine pG_many 2 (pc1 := 155) (L1 := [some (.ref 211), d1, some (.int x2)]) (st1 := [.int 4, .int x2]) (M1 := mjTo Z) rfl ?_
            by_cases hc42 : mjCmp .ge x2 4 = true
            · rw [if_pos hc42] at h
              refine pG_cmt (t := 178) rfl rfl hc42 ?_
              refine pG_many 2 (pc1 := 142) (L1 := [some (.ref 211), (mjK1 d1), some (.int (x2 + 1))]) (st1 := []) (M1 := mjTo Z) rfl ?_
              exact f205_goOn_h142_ok n (x2 + 1) ((mjK1 d1)) Z v9 Z9 h
            · rw [if_neg hc42] at h
              refine pG_cmf (t := 178) rfl rfl hc42 ?_
              refine pG_many 3 (pc1 := 162) (L1 := [some (.ref 211), d1, some (.int x2)]) (st1 := [.ref 211, .int 10, .ref 211]) (M1 := mjTo Z) rfl ?_
              refine pG_getI (ci := 12) (f := 8) rfl rfl (Or.inl rfl) (by rfl) ?_
              refine pG_many 3 (pc1 := 168) (L1 := [some (.ref 211), d1, some (.int x2)]) (st1 := [.int x2, .ref 211, .int (10 * (Z.1 211 8)), .ref 211]) (M1 := mjTo Z) rfl ?_
              refine pG_callV (k2 := 201) (As := [.ref 211, .int x2]) (rest := [.int (10 * (Z.1 211 8)), .ref 211]) rfl rfl rfl rfl rfl (by rfl) (by decide) (f201_here_ok hq32) ?_
              rintro r9 M9 ⟨rfl, rfl⟩
              show pG 205 171 [some (.ref 211), d1, some (.int x2)] [.int v33, .int (10 * (Z.1 211 8)), .ref 211] (mjTo Z) _
              refine pG_many 3 (pc1 := 175) (L1 := [some (.ref 211), d1, some (.int x2)]) (st1 := [.int (((10 * (Z.1 211 8)) + v33) - 48), .ref 211]) (M1 := mjTo Z) rfl ?_
              refine pG_putI (ci := 12) (f := 8) rfl rfl rfl rfl (by rfl) ?_
              rw [mjLet] at h
              generalize zSi Z 211 8 (((10 * (Z.1 211 8)) + v33) - 48) = Z46 at h ⊢
              refine pG_many 2 (pc1 := 142) (L1 := [some (.ref 211), (mjK1 d1), some (.int (x2 + 1))]) (st1 := []) (M1 := mjTo Z46) rfl ?_
              exact f205_goOn_h142_ok n (x2 + 1) ((mjK1 d1)) Z46 v9 Z9 h
def f205_goOn_j129 (x2 : Int32) (s1 : Int32) (Z : mjZt) : Option (Unit × mjZt) :=
  mjLet (zSi Z 211 7 s1) fun Z55 =>
  mjLet (zSi Z55 211 5 ((Z55.1 211 5) + x2)) fun Z56 =>
  some ((), Z56)
theorem f205_goOn_j129_ok (x2 : Int32) (s1 : Int32) (d1 : Option Value) (Z : mjZt) (v9 : Unit) (Z9 : mjZt) (h : f205_goOn_j129 x2 s1 Z = some (v9, Z9)) : pG 205 129 [some (.ref 211), d1, some (.int x2)] [.int s1, .ref 211] (mjTo Z) (fun r M1 => r = none ∧ M1 = mjTo Z9) := by
  unfold f205_goOn_j129 at h
  refine pG_putI (ci := 12) (f := 7) rfl rfl rfl rfl (by rfl) ?_
  rw [mjLet] at h
  generalize zSi Z 211 7 s1 = Z55 at h ⊢
  refine pG_many 3 (pc1 := 226) (L1 := [some (.ref 211), d1, some (.int x2)]) (st1 := [.ref 211, .ref 211]) (M1 := mjTo Z55) rfl ?_
  refine pG_getI (ci := 12) (f := 5) rfl rfl (Or.inl rfl) (by rfl) ?_
  refine pG_many 2 (pc1 := 231) (L1 := [some (.ref 211), d1, some (.int x2)]) (st1 := [.int ((Z55.1 211 5) + x2), .ref 211]) (M1 := mjTo Z55) rfl ?_
  refine pG_putI (ci := 12) (f := 5) rfl rfl rfl rfl (by rfl) ?_
  rw [mjLet] at h
  generalize zSi Z55 211 5 ((Z55.1 211 5) + x2) = Z56 at h ⊢
  simp only [Option.some.injEq, Prod.mk.injEq] at h
  obtain ⟨-, rfl⟩ := h
  exact pG_ret (r := none) rfl ⟨rfl, rfl⟩
def f205_goOn_h76 : Nat → Int32 → mjZt → Option (Unit × mjZt)
  | 0, _, _ => none
  | n + 1, x2, Z =>
    mjBp (f201_here x2 Z) fun v48 =>
    mjBp (f202_isLetter v48 Z) fun v51 =>
    if mjCmp .eq v51 0 = true then
      if mjCmp .le x2 8 = true then
        f205_goOn_j129 x2 1 Z
      else
        f205_goOn_j129 x2 4 Z
    else
      if mjCmp .ge x2 8 = true then
        f205_goOn_h76 n (x2 + 1) Z
      else
        mjLet (zSl Z 211 13 (((Z.2.1 211 13) <<< (Int32.toInt64 8 &&& 63)) ||| (Int32.toInt64 v48))) fun Z61 =>
        f205_goOn_h76 n (x2 + 1) Z61
theorem f205_goOn_h76_ok : ∀ (n : Nat) (x2 : Int32) (d1 : Option Value) (Z : mjZt) (v9 : Unit) (Z9 : mjZt), f205_goOn_h76 n x2 Z = some (v9, Z9) → pG 205 76 [some (.ref 211), d1, some (.int x2)] [] (mjTo Z) (fun r M1 => r = none ∧ M1 = mjTo Z9)
  | 0, x2, d1, Z, v9, Z9, h => by rw [f205_goOn_h76] at h; cases h
  | n + 1, x2, d1, Z, v9, Z9, h => by
      rw [f205_goOn_h76] at h
      refine pG_many 2 (pc1 := 78) (L1 := [some (.ref 211), d1, some (.int x2)]) (st1 := [.int x2, .ref 211]) (M1 := mjTo Z) rfl ?_
      cases hq47 : f201_here x2 Z with
      | none => rw [hq47] at h; cases h
      | some v48 =>
        rw [hq47, mjBp_some] at h
        refine pG_callV (k2 := 201) (As := [.ref 211, .int x2]) (rest := []) rfl rfl rfl rfl rfl (by rfl) (by decide) (f201_here_ok hq47) ?_
        rintro r9 M9 ⟨rfl, rfl⟩
        show pG 205 81 [some (.ref 211), d1, some (.int x2)] [.int v48] (mjTo Z) _
        cases hq50 : f202_isLetter v48 Z with
        | none => rw [hq50] at h; cases h
        | some v51 =>
          rw [hq50, mjBp_some] at h
          refine pG_call (k2 := 202) (As := [.int v48]) (rest := []) rfl (by decide) (f202_isLetter_ok hq50) ?_
          rintro r9 M9 ⟨rfl, rfl⟩
          show pG 205 84 [some (.ref 211), d1, some (.int x2)] [.int v51] (mjTo Z) _
          by_cases hc53 : mjCmp .eq v51 0 = true
          · rw [if_pos hc53] at h
            refine pG_ift (t := 117) rfl rfl hc53 ?_
            refine pG_many 3 (pc1 := 121) (L1 := [some (.ref 211), d1, some (.int x2)]) (st1 := [.int 8, .int x2, .ref 211]) (M1 := mjTo Z) rfl ?_
            by_cases hc54 : mjCmp .le x2 8 = true
            · rw [if_pos hc54] at h
              refine pG_cmt (t := 128) rfl rfl hc54 ?_
              refine pG_many 1 (pc1 := 129) (L1 := [some (.ref 211), d1, some (.int x2)]) (st1 := [.int 1, .ref 211]) (M1 := mjTo Z) rfl ?_
              exact f205_goOn_j129_ok x2 1 d1 Z v9 Z9 h
            · rw [if_neg hc54] at h
              refine pG_cmf (t := 128) rfl rfl hc54 ?_
              refine pG_many 2 (pc1 := 129) (L1 := [some (.ref 211), d1, some (.int x2)]) (st1 := [.int 4, .ref 211]) (M1 := mjTo Z) rfl ?_
              exact f205_goOn_j129_ok x2 4 d1 Z v9 Z9 h
          · rw [if_neg hc53] at h
            refine pG_iff (t := 117) rfl rfl hc53 ?_
            refine pG_many 2 (pc1 := 90) (L1 := [some (.ref 211), d1, some (.int x2)]) (st1 := [.int 8, .int x2]) (M1 := mjTo Z) rfl ?_
            by_cases hc57 : mjCmp .ge x2 8 = true
            · rw [if_pos hc57] at h
              refine pG_cmt (t := 111) rfl rfl hc57 ?_
              refine pG_many 2 (pc1 := 76) (L1 := [some (.ref 211), (mjK1 d1), some (.int (x2 + 1))]) (st1 := []) (M1 := mjTo Z) rfl ?_
              exact f205_goOn_h76_ok n (x2 + 1) ((mjK1 d1)) Z v9 Z9 h
            · rw [if_neg hc57] at h
              refine pG_cmf (t := 111) rfl rfl hc57 ?_
              refine pG_many 2 (pc1 := 95) (L1 := [some (.ref 211), d1, some (.int x2)]) (st1 := [.ref 211, .ref 211]) (M1 := mjTo Z) rfl ?_
              refine pG_getL (ci := 12) (f := 13) rfl rfl rfl (by rfl) ?_
              refine pG_many 4 (pc1 := 103) (L1 := [some (.ref 211), d1, some (.int x2)]) (st1 := [.int x2, .ref 211, .long ((Z.2.1 211 13) <<< (Int32.toInt64 8 &&& 63)), .ref 211]) (M1 := mjTo Z) rfl ?_
              refine pG_callV (k2 := 201) (As := [.ref 211, .int x2]) (rest := [.long ((Z.2.1 211 13) <<< (Int32.toInt64 8 &&& 63)), .ref 211]) rfl rfl rfl rfl rfl (by rfl) (by decide) (f201_here_ok hq47) ?_
              rintro r9 M9 ⟨rfl, rfl⟩
              show pG 205 106 [some (.ref 211), d1, some (.int x2)] [.int v48, .long ((Z.2.1 211 13) <<< (Int32.toInt64 8 &&& 63)), .ref 211] (mjTo Z) _
              refine pG_many 2 (pc1 := 108) (L1 := [some (.ref 211), d1, some (.int x2)]) (st1 := [.long (((Z.2.1 211 13) <<< (Int32.toInt64 8 &&& 63)) ||| (Int32.toInt64 v48)), .ref 211]) (M1 := mjTo Z) rfl ?_
              refine pG_putL (ci := 12) (f := 13) rfl rfl rfl rfl (by rfl) ?_
              rw [mjLet] at h
              generalize zSl Z 211 13 (((Z.2.1 211 13) <<< (Int32.toInt64 8 &&& 63)) ||| (Int32.toInt64 v48)) = Z61 at h ⊢
              refine pG_many 2 (pc1 := 76) (L1 := [some (.ref 211), (mjK1 d1), some (.int (x2 + 1))]) (st1 := []) (M1 := mjTo Z61) rfl ?_
              exact f205_goOn_h76_ok n (x2 + 1) ((mjK1 d1)) Z61 v9 Z9 h
def f205_goOn_h0 : Nat → mjZt → Option (Unit × mjZt)
  | 0, _ => none
  | n + 1, Z =>
    mjBp (f201_here 0 Z) fun v2 =>
    if mjCmp .eq v2 32 = true then
      mjLet (zSi Z 211 5 ((Z.1 211 5) + 1)) fun Z5 =>
      f205_goOn_h0 n  Z5
    else
      if mjCmp .ne v2 10 = true then
        mjLet (zSi Z 211 6 (Z.1 211 5)) fun Z10 =>
        mjLet (zSl Z10 211 13 0) fun Z11 =>
        mjLet (zSi Z11 211 8 0) fun Z12 =>
        mjBp (f201_here 0 Z12) fun v14 =>
        if mjCmp .ge v14 0 = true then
          mjBp (f202_isLetter v14 Z12) fun v18 =>
          if mjCmp .eq v18 0 = true then
            mjBp (f203_isDigit v14 Z12) fun v22 =>
            if mjCmp .eq v22 0 = true then
              mjBp (f204_isSign v14 Z12) fun v26 =>
              if mjCmp .eq v26 0 = true then
                f205_goOn_j214 v14 4 Z12
              else
                f205_goOn_j214 v14 3 Z12
            else
              f205_goOn_h142 mjF 0 Z12
          else
            f205_goOn_h76 mjF 0 Z12
        else
          mjLet (zSi Z12 211 7 0) fun Z62 =>
          some ((), Z62)
      else
        mjLet (zSi Z 211 5 ((Z.1 211 5) + 1)) fun Z63 =>
        f205_goOn_h0 n  Z63
theorem f205_goOn_h0_ok : ∀ (n : Nat)  (d1 d2 : Option Value) (Z : mjZt) (v9 : Unit) (Z9 : mjZt), f205_goOn_h0 n  Z = some (v9, Z9) → pG 205 0 [some (.ref 211), d1, d2] [] (mjTo Z) (fun r M1 => r = none ∧ M1 = mjTo Z9)
  | 0, d1, d2, Z, v9, Z9, h => by rw [f205_goOn_h0] at h; cases h
  | n + 1, d1, d2, Z, v9, Z9, h => by
      rw [f205_goOn_h0] at h
      refine pG_many 2 (pc1 := 2) (L1 := [some (.ref 211), d1, d2]) (st1 := [.int 0, .ref 211]) (M1 := mjTo Z) rfl ?_
      cases hq1 : f201_here 0 Z with
      | none => rw [hq1] at h; cases h
      | some v2 =>
        rw [hq1, mjBp_some] at h
        refine pG_callV (k2 := 201) (As := [.ref 211, .int 0]) (rest := []) rfl rfl rfl rfl rfl (by rfl) (by decide) (f201_here_ok hq1) ?_
        rintro r9 M9 ⟨rfl, rfl⟩
        show pG 205 5 [some (.ref 211), d1, d2] [.int v2] (mjTo Z) _
        refine pG_many 1 (pc1 := 7) (L1 := [some (.ref 211), d1, d2]) (st1 := [.int 32, .int v2]) (M1 := mjTo Z) rfl ?_
        by_cases hc4 : mjCmp .eq v2 32 = true
        · rw [if_pos hc4] at h
          refine pG_cmt (t := 20) rfl rfl hc4 ?_
          refine pG_many 2 (pc1 := 22) (L1 := [some (.ref 211), d1, d2]) (st1 := [.ref 211, .ref 211]) (M1 := mjTo Z) rfl ?_
          refine pG_getI (ci := 12) (f := 5) rfl rfl (Or.inl rfl) (by rfl) ?_
          refine pG_many 2 (pc1 := 27) (L1 := [some (.ref 211), d1, d2]) (st1 := [.int ((Z.1 211 5) + 1), .ref 211]) (M1 := mjTo Z) rfl ?_
          refine pG_putI (ci := 12) (f := 5) rfl rfl rfl rfl (by rfl) ?_
          rw [mjLet] at h
          generalize zSi Z 211 5 ((Z.1 211 5) + 1) = Z5 at h ⊢
          refine pG_many 1 (pc1 := 0) (L1 := [some (.ref 211), d1, d2]) (st1 := []) (M1 := mjTo Z5) rfl ?_
          exact f205_goOn_h0_ok n d1 d2 Z5 v9 Z9 h
        · rw [if_neg hc4] at h
          refine pG_cmf (t := 20) rfl rfl hc4 ?_
          refine pG_many 2 (pc1 := 12) (L1 := [some (.ref 211), d1, d2]) (st1 := [.int 0, .ref 211]) (M1 := mjTo Z) rfl ?_
          refine pG_callV (k2 := 201) (As := [.ref 211, .int 0]) (rest := []) rfl rfl rfl rfl rfl (by rfl) (by decide) (f201_here_ok hq1) ?_
          rintro r9 M9 ⟨rfl, rfl⟩
          show pG 205 15 [some (.ref 211), d1, d2] [.int v2] (mjTo Z) _
          refine pG_many 1 (pc1 := 17) (L1 := [some (.ref 211), d1, d2]) (st1 := [.int 10, .int v2]) (M1 := mjTo Z) rfl ?_
          by_cases hc9 : mjCmp .ne v2 10 = true
          · rw [if_pos hc9] at h
            refine pG_cmt (t := 33) rfl rfl hc9 ?_
            refine pG_many 2 (pc1 := 35) (L1 := [some (.ref 211), d1, d2]) (st1 := [.ref 211, .ref 211]) (M1 := mjTo Z) rfl ?_
            refine pG_getI (ci := 12) (f := 5) rfl rfl (Or.inl rfl) (by rfl) ?_
            refine pG_putI (ci := 12) (f := 6) rfl rfl rfl rfl (by rfl) ?_
            rw [mjLet] at h
            generalize zSi Z 211 6 (Z.1 211 5) = Z10 at h ⊢
            refine pG_many 2 (pc1 := 43) (L1 := [some (.ref 211), d1, d2]) (st1 := [.long 0, .ref 211]) (M1 := mjTo Z10) rfl ?_
            refine pG_putL (ci := 12) (f := 13) rfl rfl rfl rfl (by rfl) ?_
            rw [mjLet] at h
            generalize zSl Z10 211 13 0 = Z11 at h ⊢
            refine pG_many 2 (pc1 := 48) (L1 := [some (.ref 211), d1, d2]) (st1 := [.int 0, .ref 211]) (M1 := mjTo Z11) rfl ?_
            refine pG_putI (ci := 12) (f := 8) rfl rfl rfl rfl (by rfl) ?_
            rw [mjLet] at h
            generalize zSi Z11 211 8 0 = Z12 at h ⊢
            refine pG_many 2 (pc1 := 53) (L1 := [some (.ref 211), d1, d2]) (st1 := [.int 0, .ref 211]) (M1 := mjTo Z12) rfl ?_
            cases hq13 : f201_here 0 Z12 with
            | none => rw [hq13] at h; cases h
            | some v14 =>
              rw [hq13, mjBp_some] at h
              refine pG_callV (k2 := 201) (As := [.ref 211, .int 0]) (rest := []) rfl rfl rfl rfl rfl (by rfl) (by decide) (f201_here_ok hq13) ?_
              rintro r9 M9 ⟨rfl, rfl⟩
              show pG 205 56 [some (.ref 211), d1, d2] [.int v14] (mjTo Z12) _
              refine pG_many 4 (pc1 := 60) (L1 := [some (.ref 211), some (.int v14), some (.int 0)]) (st1 := [.int v14]) (M1 := mjTo Z12) rfl ?_
              by_cases hc16 : mjCmp .ge v14 0 = true
              · rw [if_pos hc16] at h
                refine pG_ift (t := 69) rfl rfl hc16 ?_
                refine pG_many 1 (pc1 := 70) (L1 := [some (.ref 211), some (.int v14), some (.int 0)]) (st1 := [.int v14]) (M1 := mjTo Z12) rfl ?_
                cases hq17 : f202_isLetter v14 Z12 with
                | none => rw [hq17] at h; cases h
                | some v18 =>
                  rw [hq17, mjBp_some] at h
                  refine pG_call (k2 := 202) (As := [.int v14]) (rest := []) rfl (by decide) (f202_isLetter_ok hq17) ?_
                  rintro r9 M9 ⟨rfl, rfl⟩
                  show pG 205 73 [some (.ref 211), some (.int v14), some (.int 0)] [.int v18] (mjTo Z12) _
                  by_cases hc20 : mjCmp .eq v18 0 = true
                  · rw [if_pos hc20] at h
                    refine pG_ift (t := 135) rfl rfl hc20 ?_
                    refine pG_many 1 (pc1 := 136) (L1 := [some (.ref 211), some (.int v14), some (.int 0)]) (st1 := [.int v14]) (M1 := mjTo Z12) rfl ?_
                    cases hq21 : f203_isDigit v14 Z12 with
                    | none => rw [hq21] at h; cases h
                    | some v22 =>
                      rw [hq21, mjBp_some] at h
                      refine pG_call (k2 := 203) (As := [.int v14]) (rest := []) rfl (by decide) (f203_isDigit_ok hq21) ?_
                      rintro r9 M9 ⟨rfl, rfl⟩
                      show pG 205 139 [some (.ref 211), some (.int v14), some (.int 0)] [.int v22] (mjTo Z12) _
                      by_cases hc24 : mjCmp .eq v22 0 = true
                      · rw [if_pos hc24] at h
                        refine pG_ift (t := 201) rfl rfl hc24 ?_
                        refine pG_many 2 (pc1 := 203) (L1 := [some (.ref 211), some (.int v14), some (.int 0)]) (st1 := [.int v14, .ref 211]) (M1 := mjTo Z12) rfl ?_
                        cases hq25 : f204_isSign v14 Z12 with
                        | none => rw [hq25] at h; cases h
                        | some v26 =>
                          rw [hq25, mjBp_some] at h
                          refine pG_call (k2 := 204) (As := [.int v14]) (rest := [.ref 211]) rfl (by decide) (f204_isSign_ok hq25) ?_
                          rintro r9 M9 ⟨rfl, rfl⟩
                          show pG 205 206 [some (.ref 211), some (.int v14), some (.int 0)] [.int v26, .ref 211] (mjTo Z12) _
                          by_cases hc28 : mjCmp .eq v26 0 = true
                          · rw [if_pos hc28] at h
                            refine pG_ift (t := 213) rfl rfl hc28 ?_
                            refine pG_many 1 (pc1 := 214) (L1 := [some (.ref 211), some (.int v14), some (.int 0)]) (st1 := [.int 4, .ref 211]) (M1 := mjTo Z12) rfl ?_
                            exact f205_goOn_j214_ok v14 4 (some (.int 0)) Z12 v9 Z9 h
                          · rw [if_neg hc28] at h
                            refine pG_iff (t := 213) rfl rfl hc28 ?_
                            refine pG_many 2 (pc1 := 214) (L1 := [some (.ref 211), some (.int v14), some (.int 0)]) (st1 := [.int 3, .ref 211]) (M1 := mjTo Z12) rfl ?_
                            exact f205_goOn_j214_ok v14 3 (some (.int 0)) Z12 v9 Z9 h
                      · rw [if_neg hc24] at h
                        refine pG_iff (t := 201) rfl rfl hc24 ?_
                        exact f205_goOn_h142_ok mjF 0 (some (.int v14)) Z12 v9 Z9 h
                  · rw [if_neg hc20] at h
                    refine pG_iff (t := 135) rfl rfl hc20 ?_
                    exact f205_goOn_h76_ok mjF 0 (some (.int v14)) Z12 v9 Z9 h
              · rw [if_neg hc16] at h
                refine pG_iff (t := 69) rfl rfl hc16 ?_
                refine pG_many 2 (pc1 := 65) (L1 := [some (.ref 211), some (.int v14), some (.int 0)]) (st1 := [.int 0, .ref 211]) (M1 := mjTo Z12) rfl ?_
                refine pG_putI (ci := 12) (f := 7) rfl rfl rfl rfl (by rfl) ?_
                rw [mjLet] at h
                generalize zSi Z12 211 7 0 = Z62 at h ⊢
                simp only [Option.some.injEq, Prod.mk.injEq] at h
                obtain ⟨-, rfl⟩ := h
                exact pG_ret (r := none) rfl ⟨rfl, rfl⟩
          · rw [if_neg hc9] at h
            refine pG_cmf (t := 33) rfl rfl hc9 ?_
            refine pG_many 2 (pc1 := 22) (L1 := [some (.ref 211), d1, d2]) (st1 := [.ref 211, .ref 211]) (M1 := mjTo Z) rfl ?_
            refine pG_getI (ci := 12) (f := 5) rfl rfl (Or.inl rfl) (by rfl) ?_
            refine pG_many 2 (pc1 := 27) (L1 := [some (.ref 211), d1, d2]) (st1 := [.int ((Z.1 211 5) + 1), .ref 211]) (M1 := mjTo Z) rfl ?_
            refine pG_putI (ci := 12) (f := 5) rfl rfl rfl rfl (by rfl) ?_
            rw [mjLet] at h
            generalize zSi Z 211 5 ((Z.1 211 5) + 1) = Z63 at h ⊢
            refine pG_many 1 (pc1 := 0) (L1 := [some (.ref 211), d1, d2]) (st1 := []) (M1 := mjTo Z63) rfl ?_
            exact f205_goOn_h0_ok n d1 d2 Z63 v9 Z9 h
def f205_goOn  (Z : mjZt) : Option (Unit × mjZt) :=
  f205_goOn_h0 mjF  Z
theorem f205_goOn_ok  {Z : mjZt} {v9 : Unit} {Z9 : mjZt} (h : f205_goOn  Z = some (v9, Z9)) : pG 205 0 (mjEnt [.ref 211] (mjML 205)) [] (mjTo Z) (fun r M1 => r = none ∧ M1 = mjTo Z9) := by
  unfold f205_goOn at h
  show pG 205 0 [some (.ref 211), none, none] [] (mjTo Z) _
  exact f205_goOn_h0_ok mjF none none Z v9 Z9 h
def f206_wrong (p0 : Int32) (Z : mjZt) : Option (Unit × mjZt) :=
  if mjCmp .le (Z.1 211 9) 0 = true then
    if mjCmp .ne (Z.1 211 7) 4 = true then
      mjLet (zSi Z 211 9 p0) fun Z3 =>
      mjLet (zSi Z3 211 10 (Z3.1 211 6)) fun Z4 =>
      some ((), Z4)
    else
      mjLet (zSi Z 211 9 1) fun Z5 =>
      mjLet (zSi Z5 211 10 (Z5.1 211 6)) fun Z6 =>
      some ((), Z6)
  else
    some ((), Z)
theorem f206_wrong_ok {p0 : Int32} {Z : mjZt} {v9 : Unit} {Z9 : mjZt} (h : f206_wrong p0 Z = some (v9, Z9)) : pG 206 0 (mjEnt [.ref 211, .int p0] (mjML 206)) [] (mjTo Z) (fun r M1 => r = none ∧ M1 = mjTo Z9) := by
  unfold f206_wrong at h
  show pG 206 0 [some (.ref 211), some (.int p0)] [] (mjTo Z) _
  refine pG_many 1 (pc1 := 1) (L1 := [some (.ref 211), some (.int p0)]) (st1 := [.ref 211]) (M1 := mjTo Z) rfl ?_
  refine pG_getI (ci := 12) (f := 9) rfl rfl (Or.inl rfl) (by rfl) ?_
  by_cases hc1 : mjCmp .le (Z.1 211 9) 0 = true
  · rw [if_pos hc1] at h
    refine pG_ift (t := 8) rfl rfl hc1 ?_
    refine pG_many 2 (pc1 := 10) (L1 := [some (.ref 211), some (.int p0)]) (st1 := [.ref 211, .ref 211]) (M1 := mjTo Z) rfl ?_
    refine pG_getI (ci := 12) (f := 7) rfl rfl (Or.inl rfl) (by rfl) ?_
    refine pG_many 1 (pc1 := 14) (L1 := [some (.ref 211), some (.int p0)]) (st1 := [.int 4, .int (Z.1 211 7), .ref 211]) (M1 := mjTo Z) rfl ?_
    by_cases hc2 : mjCmp .ne (Z.1 211 7) 4 = true
    · rw [if_pos hc2] at h
      refine pG_cmt (t := 21) rfl rfl hc2 ?_
      refine pG_many 1 (pc1 := 22) (L1 := [some (.ref 211), some (.int p0)]) (st1 := [.int p0, .ref 211]) (M1 := mjTo Z) rfl ?_
      refine pG_putI (ci := 12) (f := 9) rfl rfl rfl rfl (by rfl) ?_
      rw [mjLet] at h
      generalize zSi Z 211 9 p0 = Z3 at h ⊢
      refine pG_many 2 (pc1 := 27) (L1 := [some (.ref 211), some (.int p0)]) (st1 := [.ref 211, .ref 211]) (M1 := mjTo Z3) rfl ?_
      refine pG_getI (ci := 12) (f := 6) rfl rfl (Or.inl rfl) (by rfl) ?_
      refine pG_putI (ci := 12) (f := 10) rfl rfl rfl rfl (by rfl) ?_
      rw [mjLet] at h
      generalize zSi Z3 211 10 (Z3.1 211 6) = Z4 at h ⊢
      simp only [Option.some.injEq, Prod.mk.injEq] at h
      obtain ⟨-, rfl⟩ := h
      exact pG_ret (r := none) rfl ⟨rfl, rfl⟩
    · rw [if_neg hc2] at h
      refine pG_cmf (t := 21) rfl rfl hc2 ?_
      refine pG_many 2 (pc1 := 22) (L1 := [some (.ref 211), some (.int p0)]) (st1 := [.int 1, .ref 211]) (M1 := mjTo Z) rfl ?_
      refine pG_putI (ci := 12) (f := 9) rfl rfl rfl rfl (by rfl) ?_
      rw [mjLet] at h
      generalize zSi Z 211 9 1 = Z5 at h ⊢
      refine pG_many 2 (pc1 := 27) (L1 := [some (.ref 211), some (.int p0)]) (st1 := [.ref 211, .ref 211]) (M1 := mjTo Z5) rfl ?_
      refine pG_getI (ci := 12) (f := 6) rfl rfl (Or.inl rfl) (by rfl) ?_
      refine pG_putI (ci := 12) (f := 10) rfl rfl rfl rfl (by rfl) ?_
      rw [mjLet] at h
      generalize zSi Z5 211 10 (Z5.1 211 6) = Z6 at h ⊢
      simp only [Option.some.injEq, Prod.mk.injEq] at h
      obtain ⟨-, rfl⟩ := h
      exact pG_ret (r := none) rfl ⟨rfl, rfl⟩
  · rw [if_neg hc1] at h
    refine pG_iff (t := 8) rfl rfl hc1 ?_
    simp only [Option.some.injEq, Prod.mk.injEq] at h
    obtain ⟨-, rfl⟩ := h
    exact pG_ret (r := none) rfl ⟨rfl, rfl⟩
def f207_isGood  (Z : mjZt) : Option Int32 :=
  if mjCmp .ne (Z.1 211 9) 0 = true then
    some 0
  else
    some 1
theorem f207_isGood_ok  {Z : mjZt} {v9 : Int32} (h : f207_isGood  Z = some v9) : pG 207 0 (mjEnt [.ref 211] (mjML 207)) [] (mjTo Z) (fun r M1 => r = some (.int v9) ∧ M1 = mjTo Z) := by
  unfold f207_isGood at h
  show pG 207 0 [some (.ref 211)] [] (mjTo Z) _
  refine pG_many 1 (pc1 := 1) (L1 := [some (.ref 211)]) (st1 := [.ref 211]) (M1 := mjTo Z) rfl ?_
  refine pG_getI (ci := 12) (f := 9) rfl rfl (Or.inl rfl) (by rfl) ?_
  by_cases hc1 : mjCmp .ne (Z.1 211 9) 0 = true
  · rw [if_pos hc1] at h
    refine pG_ift (t := 11) rfl rfl hc1 ?_
    refine pG_many 1 (pc1 := 12) (L1 := [some (.ref 211)]) (st1 := [.int 0]) (M1 := mjTo Z) rfl ?_
    simp only [Option.some.injEq] at h
    subst h
    exact pG_ret (r := some (.int 0)) rfl ⟨rfl, rfl⟩
  · rw [if_neg hc1] at h
    refine pG_iff (t := 11) rfl rfl hc1 ?_
    refine pG_many 2 (pc1 := 12) (L1 := [some (.ref 211)]) (st1 := [.int 1]) (M1 := mjTo Z) rfl ?_
    simp only [Option.some.injEq] at h
    subst h
    exact pG_ret (r := some (.int 1)) rfl ⟨rfl, rfl⟩
def f208_isWord (p0 : Int64) (Z : mjZt) : Option Int32 :=
  if mjCmp .ne (Z.1 211 9) 0 = true then
    some 0
  else
    if mjCmp .ne (Z.1 211 7) 1 = true then
      some 0
    else
      if mjCmp .ne (lg_cmp (Z.2.1 211 13) p0) 0 = true then
        some 0
      else
        some 1
theorem f208_isWord_ok {p0 : Int64} {Z : mjZt} {v9 : Int32} (h : f208_isWord p0 Z = some v9) : pG 208 0 (mjEnt [.ref 211, .long p0] (mjML 208)) [] (mjTo Z) (fun r M1 => r = some (.int v9) ∧ M1 = mjTo Z) := by
  unfold f208_isWord at h
  show pG 208 0 [some (.ref 211), some (.long p0), none] [] (mjTo Z) _
  refine pG_many 1 (pc1 := 1) (L1 := [some (.ref 211), some (.long p0), none]) (st1 := [.ref 211]) (M1 := mjTo Z) rfl ?_
  refine pG_getI (ci := 12) (f := 9) rfl rfl (Or.inl rfl) (by rfl) ?_
  by_cases hc1 : mjCmp .ne (Z.1 211 9) 0 = true
  · rw [if_pos hc1] at h
    refine pG_ift (t := 28) rfl rfl hc1 ?_
    refine pG_many 1 (pc1 := 29) (L1 := [some (.ref 211), some (.long p0), none]) (st1 := [.int 0]) (M1 := mjTo Z) rfl ?_
    simp only [Option.some.injEq] at h
    subst h
    exact pG_ret (r := some (.int 0)) rfl ⟨rfl, rfl⟩
  · rw [if_neg hc1] at h
    refine pG_iff (t := 28) rfl rfl hc1 ?_
    refine pG_many 1 (pc1 := 8) (L1 := [some (.ref 211), some (.long p0), none]) (st1 := [.ref 211]) (M1 := mjTo Z) rfl ?_
    refine pG_getI (ci := 12) (f := 7) rfl rfl (Or.inl rfl) (by rfl) ?_
    refine pG_many 1 (pc1 := 12) (L1 := [some (.ref 211), some (.long p0), none]) (st1 := [.int 1, .int (Z.1 211 7)]) (M1 := mjTo Z) rfl ?_
    by_cases hc2 : mjCmp .ne (Z.1 211 7) 1 = true
    · rw [if_pos hc2] at h
      refine pG_cmt (t := 28) rfl rfl hc2 ?_
      refine pG_many 1 (pc1 := 29) (L1 := [some (.ref 211), some (.long p0), none]) (st1 := [.int 0]) (M1 := mjTo Z) rfl ?_
      simp only [Option.some.injEq] at h
      subst h
      exact pG_ret (r := some (.int 0)) rfl ⟨rfl, rfl⟩
    · rw [if_neg hc2] at h
      refine pG_cmf (t := 28) rfl rfl hc2 ?_
      refine pG_many 1 (pc1 := 16) (L1 := [some (.ref 211), some (.long p0), none]) (st1 := [.ref 211]) (M1 := mjTo Z) rfl ?_
      refine pG_getL (ci := 12) (f := 13) rfl rfl rfl (by rfl) ?_
      refine pG_many 2 (pc1 := 21) (L1 := [some (.ref 211), some (.long p0), none]) (st1 := [.int (lg_cmp (Z.2.1 211 13) p0)]) (M1 := mjTo Z) rfl ?_
      by_cases hc3 : mjCmp .ne (lg_cmp (Z.2.1 211 13) p0) 0 = true
      · rw [if_pos hc3] at h
        refine pG_ift (t := 28) rfl rfl hc3 ?_
        refine pG_many 1 (pc1 := 29) (L1 := [some (.ref 211), some (.long p0), none]) (st1 := [.int 0]) (M1 := mjTo Z) rfl ?_
        simp only [Option.some.injEq] at h
        subst h
        exact pG_ret (r := some (.int 0)) rfl ⟨rfl, rfl⟩
      · rw [if_neg hc3] at h
        refine pG_iff (t := 28) rfl rfl hc3 ?_
        refine pG_many 2 (pc1 := 29) (L1 := [some (.ref 211), some (.long p0), none]) (st1 := [.int 1]) (M1 := mjTo Z) rfl ?_
        simp only [Option.some.injEq] at h
        subst h
        exact pG_ret (r := some (.int 1)) rfl ⟨rfl, rfl⟩
def f209_isSignHere (p0 : Int32) (Z : mjZt) : Option Int32 :=
  if mjCmp .ne (Z.1 211 9) 0 = true then
    some 0
  else
    if mjCmp .ne (Z.1 211 7) 3 = true then
      some 0
    else
      if mjCmp .ne (Z.1 211 8) p0 = true then
        some 0
      else
        some 1
theorem f209_isSignHere_ok {p0 : Int32} {Z : mjZt} {v9 : Int32} (h : f209_isSignHere p0 Z = some v9) : pG 209 0 (mjEnt [.ref 211, .int p0] (mjML 209)) [] (mjTo Z) (fun r M1 => r = some (.int v9) ∧ M1 = mjTo Z) := by
  unfold f209_isSignHere at h
  show pG 209 0 [some (.ref 211), some (.int p0)] [] (mjTo Z) _
  refine pG_many 1 (pc1 := 1) (L1 := [some (.ref 211), some (.int p0)]) (st1 := [.ref 211]) (M1 := mjTo Z) rfl ?_
  refine pG_getI (ci := 12) (f := 9) rfl rfl (Or.inl rfl) (by rfl) ?_
  by_cases hc1 : mjCmp .ne (Z.1 211 9) 0 = true
  · rw [if_pos hc1] at h
    refine pG_ift (t := 27) rfl rfl hc1 ?_
    refine pG_many 1 (pc1 := 28) (L1 := [some (.ref 211), some (.int p0)]) (st1 := [.int 0]) (M1 := mjTo Z) rfl ?_
    simp only [Option.some.injEq] at h
    subst h
    exact pG_ret (r := some (.int 0)) rfl ⟨rfl, rfl⟩
  · rw [if_neg hc1] at h
    refine pG_iff (t := 27) rfl rfl hc1 ?_
    refine pG_many 1 (pc1 := 8) (L1 := [some (.ref 211), some (.int p0)]) (st1 := [.ref 211]) (M1 := mjTo Z) rfl ?_
    refine pG_getI (ci := 12) (f := 7) rfl rfl (Or.inl rfl) (by rfl) ?_
    refine pG_many 1 (pc1 := 12) (L1 := [some (.ref 211), some (.int p0)]) (st1 := [.int 3, .int (Z.1 211 7)]) (M1 := mjTo Z) rfl ?_
    by_cases hc2 : mjCmp .ne (Z.1 211 7) 3 = true
    · rw [if_pos hc2] at h
      refine pG_cmt (t := 27) rfl rfl hc2 ?_
      refine pG_many 1 (pc1 := 28) (L1 := [some (.ref 211), some (.int p0)]) (st1 := [.int 0]) (M1 := mjTo Z) rfl ?_
      simp only [Option.some.injEq] at h
      subst h
      exact pG_ret (r := some (.int 0)) rfl ⟨rfl, rfl⟩
    · rw [if_neg hc2] at h
      refine pG_cmf (t := 27) rfl rfl hc2 ?_
      refine pG_many 1 (pc1 := 16) (L1 := [some (.ref 211), some (.int p0)]) (st1 := [.ref 211]) (M1 := mjTo Z) rfl ?_
      refine pG_getI (ci := 12) (f := 8) rfl rfl (Or.inl rfl) (by rfl) ?_
      refine pG_many 1 (pc1 := 20) (L1 := [some (.ref 211), some (.int p0)]) (st1 := [.int p0, .int (Z.1 211 8)]) (M1 := mjTo Z) rfl ?_
      by_cases hc3 : mjCmp .ne (Z.1 211 8) p0 = true
      · rw [if_pos hc3] at h
        refine pG_cmt (t := 27) rfl rfl hc3 ?_
        refine pG_many 1 (pc1 := 28) (L1 := [some (.ref 211), some (.int p0)]) (st1 := [.int 0]) (M1 := mjTo Z) rfl ?_
        simp only [Option.some.injEq] at h
        subst h
        exact pG_ret (r := some (.int 0)) rfl ⟨rfl, rfl⟩
      · rw [if_neg hc3] at h
        refine pG_cmf (t := 27) rfl rfl hc3 ?_
        refine pG_many 2 (pc1 := 28) (L1 := [some (.ref 211), some (.int p0)]) (st1 := [.int 1]) (M1 := mjTo Z) rfl ?_
        simp only [Option.some.injEq] at h
        subst h
        exact pG_ret (r := some (.int 1)) rfl ⟨rfl, rfl⟩
def f210_among_h3 : Nat → Nat → Int32 → Int64 → Int32 → mjZt → Option Int32
  | 0, _, _, _, _, _ => none
  | n + 1, x0, x1, x2, x4, Z =>
    if mjCmp .ge x4 x1 = true then
      some ((-1))
    else
      if mjIs x0 251 14 = true then
      if mjIn x4 (mjLay x0).2 = true then
      if mjCmp .ne (lg_cmp (Z.2.1 x0 (mjIx x4)) x2) 0 = true then
        f210_among_h3 n x0 x1 x2 (x4 + 1) Z
      else
        some x4
      else none
      else none
theorem f210_among_h3_ok : ∀ (n : Nat) (x0 : Nat) (x1 : Int32) (x2 : Int64) (x4 : Int32) (d3 : Option Value) (Z : mjZt) (v9 : Int32), f210_among_h3 n x0 x1 x2 x4 Z = some v9 → pG 210 3 [some (.ref x0), some (.int x1), some (.long x2), d3, some (.int x4)] [] (mjTo Z) (fun r M1 => r = some (.int v9) ∧ M1 = mjTo Z)
  | 0, x0, x1, x2, x4, d3, Z, v9, h => by rw [f210_among_h3] at h; cases h
  | n + 1, x0, x1, x2, x4, d3, Z, v9, h => by
      rw [f210_among_h3] at h
      refine pG_many 2 (pc1 := 6) (L1 := [some (.ref x0), some (.int x1), some (.long x2), d3, some (.int x4)]) (st1 := [.int x1, .int x4]) (M1 := mjTo Z) rfl ?_
      by_cases hc1 : mjCmp .ge x4 x1 = true
      · rw [if_pos hc1] at h
        refine pG_cmt (t := 27) rfl rfl hc1 ?_
        refine pG_many 1 (pc1 := 28) (L1 := [some (.ref x0), some (.int x1), some (.long x2), d3, some (.int x4)]) (st1 := [.int ((-1))]) (M1 := mjTo Z) rfl ?_
        simp only [Option.some.injEq] at h
        subst h
        exact pG_ret (r := some (.int ((-1)))) rfl ⟨rfl, rfl⟩
      · rw [if_neg hc1] at h
        refine pG_cmf (t := 27) rfl rfl hc1 ?_
        refine pG_many 2 (pc1 := 12) (L1 := [some (.ref x0), some (.int x1), some (.long x2), d3, some (.int x4)]) (st1 := [.int x4, .ref x0]) (M1 := mjTo Z) rfl ?_
        have hk2 : mjIs x0 251 14 = true := by
          by_cases q9 : mjIs x0 251 14 = true
          · exact q9
          · rw [if_neg q9] at h; cases h
        rw [if_pos hk2] at h
        have hk3 : mjIn x4 (mjLay x0).2 = true := by
          by_cases q9 : mjIn x4 (mjLay x0).2 = true
          · exact q9
          · rw [if_neg q9] at h; cases h
        rw [if_pos hk3] at h
        refine pG_lal rfl hk2 hk3 ?_
        refine pG_many 2 (pc1 := 15) (L1 := [some (.ref x0), some (.int x1), some (.long x2), d3, some (.int x4)]) (st1 := [.int (lg_cmp (Z.2.1 x0 (mjIx x4)) x2)]) (M1 := mjTo Z) rfl ?_
        by_cases hc4 : mjCmp .ne (lg_cmp (Z.2.1 x0 (mjIx x4)) x2) 0 = true
        · rw [if_pos hc4] at h
          refine pG_ift (t := 21) rfl rfl hc4 ?_
          refine pG_many 2 (pc1 := 3) (L1 := [some (.ref x0), some (.int x1), some (.long x2), (mjK1 d3), some (.int (x4 + 1))]) (st1 := []) (M1 := mjTo Z) rfl ?_
          exact f210_among_h3_ok n x0 x1 x2 (x4 + 1) ((mjK1 d3)) Z v9 h
        · rw [if_neg hc4] at h
          refine pG_iff (t := 21) rfl rfl hc4 ?_
          refine pG_many 1 (pc1 := 20) (L1 := [some (.ref x0), some (.int x1), some (.long x2), d3, some (.int x4)]) (st1 := [.int x4]) (M1 := mjTo Z) rfl ?_
          simp only [Option.some.injEq] at h
          subst h
          exact pG_ret (r := some (.int x4)) rfl ⟨rfl, rfl⟩
def f210_among (p0 : Nat) (p1 : Int32) (p2 : Int64) (Z : mjZt) : Option Int32 :=
  f210_among_h3 mjF p0 p1 p2 0 Z
theorem f210_among_ok {p0 : Nat} {p1 : Int32} {p2 : Int64} {Z : mjZt} {v9 : Int32} (h : f210_among p0 p1 p2 Z = some v9) : pG 210 0 (mjEnt [.ref p0, .int p1, .long p2] (mjML 210)) [] (mjTo Z) (fun r M1 => r = some (.int v9) ∧ M1 = mjTo Z) := by
  unfold f210_among at h
  show pG 210 0 [some (.ref p0), some (.int p1), some (.long p2), none, none] [] (mjTo Z) _
  refine pG_many 2 (pc1 := 3) (L1 := [some (.ref p0), some (.int p1), some (.long p2), none, some (.int 0)]) (st1 := []) (M1 := mjTo Z) rfl ?_
  exact f210_among_h3_ok mjF p0 p1 p2 0 none Z v9 h
def f211_isKept  (Z : mjZt) : Option Int32 :=
  if mjCmp .eq (lg_cmp (Z.2.1 211 13) 500135191403) 0 = true then
    some 1
  else
    if mjCmp .eq (lg_cmp (Z.2.1 211 13) 1952801133) 0 = true then
      some 1
    else
      if mjCmp .eq (lg_cmp (Z.2.1 211 13) 1920298611) 0 = true then
        some 1
      else
        if mjCmp .eq (lg_cmp (Z.2.1 211 13) 6382452) 0 = true then
          some 1
        else
          if mjCmp .eq (lg_cmp (Z.2.1 211 13) 1920298085) 0 = true then
            some 1
          else
            if mjCmp .eq (lg_cmp (Z.2.1 211 13) 32765938003961704) 0 = true then
              some 1
            else
              if mjCmp .eq (lg_cmp (Z.2.1 211 13) 131294808271214) 0 = true then
                some 1
              else
                if mjCmp .eq (lg_cmp (Z.2.1 211 13) 2003330414) 0 = true then
                  some 1
                else
                  if mjCmp .eq (lg_cmp (Z.2.1 211 13) 111567739122533) 0 = true then
                    some 1
                  else
                    if mjCmp .eq (lg_cmp (Z.2.1 211 13) 6385252) 0 = true then
                      some 1
                    else
                      if mjCmp .eq (lg_cmp (Z.2.1 211 13) 28530) 0 = true then
                        some 1
                      else
                        if mjCmp .eq (lg_cmp (Z.2.1 211 13) 7237492) 0 = true then
                          some 1
                        else
                          mjBp (f210_among 213 5 (Z.2.1 211 13) Z) fun v14 =>
                          if mjCmp .ne v14 ((-1)) = true then
                            some 1
                          else
                            mjBp (f210_among 214 11 (Z.2.1 211 13) Z) fun v18 =>
                            if mjCmp .eq v18 ((-1)) = true then
                              some 0
                            else
                              some 1
theorem f211_isKept_ok  {Z : mjZt} {v9 : Int32} (h : f211_isKept  Z = some v9) : pG 211 0 (mjEnt [.ref 211] (mjML 211)) [] (mjTo Z) (fun r M1 => r = some (.int v9) ∧ M1 = mjTo Z) := by
  unfold f211_isKept at h
  show pG 211 0 [some (.ref 211)] [] (mjTo Z) _
  refine pG_many 1 (pc1 := 1) (L1 := [some (.ref 211)]) (st1 := [.ref 211]) (M1 := mjTo Z) rfl ?_
  refine pG_getL (ci := 12) (f := 13) rfl rfl rfl (by rfl) ?_
  refine pG_many 2 (pc1 := 8) (L1 := [some (.ref 211)]) (st1 := [.int (lg_cmp (Z.2.1 211 13) 500135191403)]) (M1 := mjTo Z) rfl ?_
  by_cases hc1 : mjCmp .eq (lg_cmp (Z.2.1 211 13) 500135191403) 0 = true
  · rw [if_pos hc1] at h
    refine pG_ift (t := 165) rfl rfl hc1 ?_
    refine pG_many 2 (pc1 := 170) (L1 := [some (.ref 211)]) (st1 := [.int 1]) (M1 := mjTo Z) rfl ?_
    simp only [Option.some.injEq] at h
    subst h
    exact pG_ret (r := some (.int 1)) rfl ⟨rfl, rfl⟩
  · rw [if_neg hc1] at h
    refine pG_iff (t := 165) rfl rfl hc1 ?_
    refine pG_many 1 (pc1 := 12) (L1 := [some (.ref 211)]) (st1 := [.ref 211]) (M1 := mjTo Z) rfl ?_
    refine pG_getL (ci := 12) (f := 13) rfl rfl rfl (by rfl) ?_
    refine pG_many 2 (pc1 := 19) (L1 := [some (.ref 211)]) (st1 := [.int (lg_cmp (Z.2.1 211 13) 1952801133)]) (M1 := mjTo Z) rfl ?_
    by_cases hc2 : mjCmp .eq (lg_cmp (Z.2.1 211 13) 1952801133) 0 = true
    · rw [if_pos hc2] at h
      refine pG_ift (t := 165) rfl rfl hc2 ?_
      refine pG_many 2 (pc1 := 170) (L1 := [some (.ref 211)]) (st1 := [.int 1]) (M1 := mjTo Z) rfl ?_
      simp only [Option.some.injEq] at h
      subst h
      exact pG_ret (r := some (.int 1)) rfl ⟨rfl, rfl⟩
    · rw [if_neg hc2] at h
      refine pG_iff (t := 165) rfl rfl hc2 ?_
      refine pG_many 1 (pc1 := 23) (L1 := [some (.ref 211)]) (st1 := [.ref 211]) (M1 := mjTo Z) rfl ?_
      refine pG_getL (ci := 12) (f := 13) rfl rfl rfl (by rfl) ?_
      refine pG_many 2 (pc1 := 30) (L1 := [some (.ref 211)]) (st1 := [.int (lg_cmp (Z.2.1 211 13) 1920298611)]) (M1 := mjTo Z) rfl ?_
      by_cases hc3 : mjCmp .eq (lg_cmp (Z.2.1 211 13) 1920298611) 0 = true
      · rw [if_pos hc3] at h
        refine pG_ift (t := 165) rfl rfl hc3 ?_
        refine pG_many 2 (pc1 := 170) (L1 := [some (.ref 211)]) (st1 := [.int 1]) (M1 := mjTo Z) rfl ?_
        simp only [Option.some.injEq] at h
        subst h
        exact pG_ret (r := some (.int 1)) rfl ⟨rfl, rfl⟩
      · rw [if_neg hc3] at h
        refine pG_iff (t := 165) rfl rfl hc3 ?_
        refine pG_many 1 (pc1 := 34) (L1 := [some (.ref 211)]) (st1 := [.ref 211]) (M1 := mjTo Z) rfl ?_
        refine pG_getL (ci := 12) (f := 13) rfl rfl rfl (by rfl) ?_
        refine pG_many 2 (pc1 := 41) (L1 := [some (.ref 211)]) (st1 := [.int (lg_cmp (Z.2.1 211 13) 6382452)]) (M1 := mjTo Z) rfl ?_
        by_cases hc4 : mjCmp .eq (lg_cmp (Z.2.1 211 13) 6382452) 0 = true
        · rw [if_pos hc4] at h
          refine pG_ift (t := 165) rfl rfl hc4 ?_
          refine pG_many 2 (pc1 := 170) (L1 := [some (.ref 211)]) (st1 := [.int 1]) (M1 := mjTo Z) rfl ?_
          simp only [Option.some.injEq] at h
          subst h
          exact pG_ret (r := some (.int 1)) rfl ⟨rfl, rfl⟩
        · rw [if_neg hc4] at h
          refine pG_iff (t := 165) rfl rfl hc4 ?_
          refine pG_many 1 (pc1 := 45) (L1 := [some (.ref 211)]) (st1 := [.ref 211]) (M1 := mjTo Z) rfl ?_
          refine pG_getL (ci := 12) (f := 13) rfl rfl rfl (by rfl) ?_
          refine pG_many 2 (pc1 := 52) (L1 := [some (.ref 211)]) (st1 := [.int (lg_cmp (Z.2.1 211 13) 1920298085)]) (M1 := mjTo Z) rfl ?_
          by_cases hc5 : mjCmp .eq (lg_cmp (Z.2.1 211 13) 1920298085) 0 = true
          · rw [if_pos hc5] at h
            refine pG_ift (t := 165) rfl rfl hc5 ?_
            refine pG_many 2 (pc1 := 170) (L1 := [some (.ref 211)]) (st1 := [.int 1]) (M1 := mjTo Z) rfl ?_
            simp only [Option.some.injEq] at h
            subst h
            exact pG_ret (r := some (.int 1)) rfl ⟨rfl, rfl⟩
          · rw [if_neg hc5] at h
            refine pG_iff (t := 165) rfl rfl hc5 ?_
            refine pG_many 1 (pc1 := 56) (L1 := [some (.ref 211)]) (st1 := [.ref 211]) (M1 := mjTo Z) rfl ?_
            refine pG_getL (ci := 12) (f := 13) rfl rfl rfl (by rfl) ?_
            refine pG_many 2 (pc1 := 63) (L1 := [some (.ref 211)]) (st1 := [.int (lg_cmp (Z.2.1 211 13) 32765938003961704)]) (M1 := mjTo Z) rfl ?_
            by_cases hc6 : mjCmp .eq (lg_cmp (Z.2.1 211 13) 32765938003961704) 0 = true
            · rw [if_pos hc6] at h
              refine pG_ift (t := 165) rfl rfl hc6 ?_
              refine pG_many 2 (pc1 := 170) (L1 := [some (.ref 211)]) (st1 := [.int 1]) (M1 := mjTo Z) rfl ?_
              simp only [Option.some.injEq] at h
              subst h
              exact pG_ret (r := some (.int 1)) rfl ⟨rfl, rfl⟩
            · rw [if_neg hc6] at h
              refine pG_iff (t := 165) rfl rfl hc6 ?_
              refine pG_many 1 (pc1 := 67) (L1 := [some (.ref 211)]) (st1 := [.ref 211]) (M1 := mjTo Z) rfl ?_
              refine pG_getL (ci := 12) (f := 13) rfl rfl rfl (by rfl) ?_
              refine pG_many 2 (pc1 := 74) (L1 := [some (.ref 211)]) (st1 := [.int (lg_cmp (Z.2.1 211 13) 131294808271214)]) (M1 := mjTo Z) rfl ?_
              by_cases hc7 : mjCmp .eq (lg_cmp (Z.2.1 211 13) 131294808271214) 0 = true
              · rw [if_pos hc7] at h
                refine pG_ift (t := 165) rfl rfl hc7 ?_
                refine pG_many 2 (pc1 := 170) (L1 := [some (.ref 211)]) (st1 := [.int 1]) (M1 := mjTo Z) rfl ?_
                simp only [Option.some.injEq] at h
                subst h
                exact pG_ret (r := some (.int 1)) rfl ⟨rfl, rfl⟩
              · rw [if_neg hc7] at h
                refine pG_iff (t := 165) rfl rfl hc7 ?_
                refine pG_many 1 (pc1 := 78) (L1 := [some (.ref 211)]) (st1 := [.ref 211]) (M1 := mjTo Z) rfl ?_
                refine pG_getL (ci := 12) (f := 13) rfl rfl rfl (by rfl) ?_
                refine pG_many 2 (pc1 := 85) (L1 := [some (.ref 211)]) (st1 := [.int (lg_cmp (Z.2.1 211 13) 2003330414)]) (M1 := mjTo Z) rfl ?_
                by_cases hc8 : mjCmp .eq (lg_cmp (Z.2.1 211 13) 2003330414) 0 = true
                · rw [if_pos hc8] at h
                  refine pG_ift (t := 165) rfl rfl hc8 ?_
                  refine pG_many 2 (pc1 := 170) (L1 := [some (.ref 211)]) (st1 := [.int 1]) (M1 := mjTo Z) rfl ?_
                  simp only [Option.some.injEq] at h
                  subst h
                  exact pG_ret (r := some (.int 1)) rfl ⟨rfl, rfl⟩
                · rw [if_neg hc8] at h
                  refine pG_iff (t := 165) rfl rfl hc8 ?_
                  refine pG_many 1 (pc1 := 89) (L1 := [some (.ref 211)]) (st1 := [.ref 211]) (M1 := mjTo Z) rfl ?_
                  refine pG_getL (ci := 12) (f := 13) rfl rfl rfl (by rfl) ?_
                  refine pG_many 2 (pc1 := 96) (L1 := [some (.ref 211)]) (st1 := [.int (lg_cmp (Z.2.1 211 13) 111567739122533)]) (M1 := mjTo Z) rfl ?_
                  by_cases hc9 : mjCmp .eq (lg_cmp (Z.2.1 211 13) 111567739122533) 0 = true
                  · rw [if_pos hc9] at h
                    refine pG_ift (t := 165) rfl rfl hc9 ?_
                    refine pG_many 2 (pc1 := 170) (L1 := [some (.ref 211)]) (st1 := [.int 1]) (M1 := mjTo Z) rfl ?_
                    simp only [Option.some.injEq] at h
                    subst h
                    exact pG_ret (r := some (.int 1)) rfl ⟨rfl, rfl⟩
                  · rw [if_neg hc9] at h
                    refine pG_iff (t := 165) rfl rfl hc9 ?_
                    refine pG_many 1 (pc1 := 100) (L1 := [some (.ref 211)]) (st1 := [.ref 211]) (M1 := mjTo Z) rfl ?_
                    refine pG_getL (ci := 12) (f := 13) rfl rfl rfl (by rfl) ?_
                    refine pG_many 2 (pc1 := 107) (L1 := [some (.ref 211)]) (st1 := [.int (lg_cmp (Z.2.1 211 13) 6385252)]) (M1 := mjTo Z) rfl ?_
                    by_cases hc10 : mjCmp .eq (lg_cmp (Z.2.1 211 13) 6385252) 0 = true
                    · rw [if_pos hc10] at h
                      refine pG_ift (t := 165) rfl rfl hc10 ?_
                      refine pG_many 2 (pc1 := 170) (L1 := [some (.ref 211)]) (st1 := [.int 1]) (M1 := mjTo Z) rfl ?_
                      simp only [Option.some.injEq] at h
                      subst h
                      exact pG_ret (r := some (.int 1)) rfl ⟨rfl, rfl⟩
                    · rw [if_neg hc10] at h
                      refine pG_iff (t := 165) rfl rfl hc10 ?_
                      refine pG_many 1 (pc1 := 111) (L1 := [some (.ref 211)]) (st1 := [.ref 211]) (M1 := mjTo Z) rfl ?_
                      refine pG_getL (ci := 12) (f := 13) rfl rfl rfl (by rfl) ?_
                      refine pG_many 2 (pc1 := 118) (L1 := [some (.ref 211)]) (st1 := [.int (lg_cmp (Z.2.1 211 13) 28530)]) (M1 := mjTo Z) rfl ?_
                      by_cases hc11 : mjCmp .eq (lg_cmp (Z.2.1 211 13) 28530) 0 = true
                      · rw [if_pos hc11] at h
                        refine pG_ift (t := 165) rfl rfl hc11 ?_
                        refine pG_many 2 (pc1 := 170) (L1 := [some (.ref 211)]) (st1 := [.int 1]) (M1 := mjTo Z) rfl ?_
                        simp only [Option.some.injEq] at h
                        subst h
                        exact pG_ret (r := some (.int 1)) rfl ⟨rfl, rfl⟩
                      · rw [if_neg hc11] at h
                        refine pG_iff (t := 165) rfl rfl hc11 ?_
                        refine pG_many 1 (pc1 := 122) (L1 := [some (.ref 211)]) (st1 := [.ref 211]) (M1 := mjTo Z) rfl ?_
                        refine pG_getL (ci := 12) (f := 13) rfl rfl rfl (by rfl) ?_
                        refine pG_many 2 (pc1 := 129) (L1 := [some (.ref 211)]) (st1 := [.int (lg_cmp (Z.2.1 211 13) 7237492)]) (M1 := mjTo Z) rfl ?_
                        by_cases hc12 : mjCmp .eq (lg_cmp (Z.2.1 211 13) 7237492) 0 = true
                        · rw [if_pos hc12] at h
                          refine pG_ift (t := 165) rfl rfl hc12 ?_
                          refine pG_many 2 (pc1 := 170) (L1 := [some (.ref 211)]) (st1 := [.int 1]) (M1 := mjTo Z) rfl ?_
                          simp only [Option.some.injEq] at h
                          subst h
                          exact pG_ret (r := some (.int 1)) rfl ⟨rfl, rfl⟩
                        · rw [if_neg hc12] at h
                          refine pG_iff (t := 165) rfl rfl hc12 ?_
                          refine pG_many 1 (pc1 := 133) (L1 := [some (.ref 211)]) (st1 := [.ref 211]) (M1 := mjTo Z) rfl ?_
                          refine pG_getR (ci := 12) (f := 2) (b := 213) rfl rfl rfl (by rfl) rfl ?_
                          refine pG_many 2 (pc1 := 138) (L1 := [some (.ref 211)]) (st1 := [.ref 211, .int 5, .ref 213]) (M1 := mjTo Z) rfl ?_
                          refine pG_getL (ci := 12) (f := 13) rfl rfl rfl (by rfl) ?_
                          cases hq13 : f210_among 213 5 (Z.2.1 211 13) Z with
                          | none => rw [hq13] at h; cases h
                          | some v14 =>
                            rw [hq13, mjBp_some] at h
                            refine pG_call (k2 := 210) (As := [.ref 213, .int 5, .long (Z.2.1 211 13)]) (rest := []) rfl (by decide) (f210_among_ok hq13) ?_
                            rintro r9 M9 ⟨rfl, rfl⟩
                            show pG 211 144 [some (.ref 211)] [.int v14] (mjTo Z) _
                            refine pG_many 1 (pc1 := 145) (L1 := [some (.ref 211)]) (st1 := [.int ((-1)), .int v14]) (M1 := mjTo Z) rfl ?_
                            by_cases hc16 : mjCmp .ne v14 ((-1)) = true
                            · rw [if_pos hc16] at h
                              refine pG_cmt (t := 165) rfl rfl hc16 ?_
                              refine pG_many 2 (pc1 := 170) (L1 := [some (.ref 211)]) (st1 := [.int 1]) (M1 := mjTo Z) rfl ?_
                              simp only [Option.some.injEq] at h
                              subst h
                              exact pG_ret (r := some (.int 1)) rfl ⟨rfl, rfl⟩
                            · rw [if_neg hc16] at h
                              refine pG_cmf (t := 165) rfl rfl hc16 ?_
                              refine pG_many 1 (pc1 := 149) (L1 := [some (.ref 211)]) (st1 := [.ref 211]) (M1 := mjTo Z) rfl ?_
                              refine pG_getR (ci := 12) (f := 3) (b := 214) rfl rfl rfl (by rfl) rfl ?_
                              refine pG_many 2 (pc1 := 155) (L1 := [some (.ref 211)]) (st1 := [.ref 211, .int 11, .ref 214]) (M1 := mjTo Z) rfl ?_
                              refine pG_getL (ci := 12) (f := 13) rfl rfl rfl (by rfl) ?_
                              cases hq17 : f210_among 214 11 (Z.2.1 211 13) Z with
                              | none => rw [hq17] at h; cases h
                              | some v18 =>
                                rw [hq17, mjBp_some] at h
                                refine pG_call (k2 := 210) (As := [.ref 214, .int 11, .long (Z.2.1 211 13)]) (rest := []) rfl (by decide) (f210_among_ok hq17) ?_
                                rintro r9 M9 ⟨rfl, rfl⟩
                                show pG 211 161 [some (.ref 211)] [.int v18] (mjTo Z) _
                                refine pG_many 1 (pc1 := 162) (L1 := [some (.ref 211)]) (st1 := [.int ((-1)), .int v18]) (M1 := mjTo Z) rfl ?_
                                by_cases hc20 : mjCmp .eq v18 ((-1)) = true
                                · rw [if_pos hc20] at h
                                  refine pG_cmt (t := 169) rfl rfl hc20 ?_
                                  refine pG_many 1 (pc1 := 170) (L1 := [some (.ref 211)]) (st1 := [.int 0]) (M1 := mjTo Z) rfl ?_
                                  simp only [Option.some.injEq] at h
                                  subst h
                                  exact pG_ret (r := some (.int 0)) rfl ⟨rfl, rfl⟩
                                · rw [if_neg hc20] at h
                                  refine pG_cmf (t := 169) rfl rfl hc20 ?_
                                  refine pG_many 2 (pc1 := 170) (L1 := [some (.ref 211)]) (st1 := [.int 1]) (M1 := mjTo Z) rfl ?_
                                  simp only [Option.some.injEq] at h
                                  subst h
                                  exact pG_ret (r := some (.int 1)) rfl ⟨rfl, rfl⟩
def f212_must (p0 : Int32) (Z : mjZt) : Option (Unit × mjZt) :=
  mjBp (f207_isGood  Z) fun v2 =>
  if mjCmp .eq v2 0 = true then
    if mjCmp .eq v2 0 = true then
      some ((), Z)
    else
      mjBd (f205_goOn  Z) fun _ Z11 =>
      some ((), Z11)
  else
    mjBp (f209_isSignHere p0 Z) fun v13 =>
    if mjCmp .ne v13 0 = true then
      if mjCmp .eq v2 0 = true then
        some ((), Z)
      else
        mjBd (f205_goOn  Z) fun _ Z22 =>
        some ((), Z22)
    else
      mjBd (f206_wrong 2 Z) fun _ Z25 =>
      mjBp (f207_isGood  Z25) fun v27 =>
      if mjCmp .eq v27 0 = true then
        some ((), Z25)
      else
        mjBd (f205_goOn  Z25) fun _ Z32 =>
        some ((), Z32)
theorem f212_must_ok {p0 : Int32} {Z : mjZt} {v9 : Unit} {Z9 : mjZt} (h : f212_must p0 Z = some (v9, Z9)) : pG 212 0 (mjEnt [.ref 211, .int p0] (mjML 212)) [] (mjTo Z) (fun r M1 => r = none ∧ M1 = mjTo Z9) := by
  unfold f212_must at h
  show pG 212 0 [some (.ref 211), some (.int p0)] [] (mjTo Z) _
  refine pG_many 1 (pc1 := 1) (L1 := [some (.ref 211), some (.int p0)]) (st1 := [.ref 211]) (M1 := mjTo Z) rfl ?_
  cases hq1 : f207_isGood  Z with
  | none => rw [hq1] at h; cases h
  | some v2 =>
    rw [hq1, mjBp_some] at h
    refine pG_callV (k2 := 207) (As := [.ref 211]) (rest := []) rfl rfl rfl rfl rfl (by rfl) (by decide) (f207_isGood_ok hq1) ?_
    rintro r9 M9 ⟨rfl, rfl⟩
    show pG 212 4 [some (.ref 211), some (.int p0)] [.int v2] (mjTo Z) _
    by_cases hc4 : mjCmp .eq v2 0 = true
    · rw [if_pos hc4] at h
      refine pG_ift (t := 20) rfl rfl hc4 ?_
      refine pG_many 1 (pc1 := 21) (L1 := [some (.ref 211), some (.int p0)]) (st1 := [.ref 211]) (M1 := mjTo Z) rfl ?_
      refine pG_callV (k2 := 207) (As := [.ref 211]) (rest := []) rfl rfl rfl rfl rfl (by rfl) (by decide) (f207_isGood_ok hq1) ?_
      rintro r9 M9 ⟨rfl, rfl⟩
      show pG 212 24 [some (.ref 211), some (.int p0)] [.int v2] (mjTo Z) _
      by_cases hc8 : mjCmp .eq v2 0 = true
      · rw [if_pos hc8] at h
        refine pG_ift (t := 31) rfl rfl hc8 ?_
        simp only [Option.some.injEq, Prod.mk.injEq] at h
        obtain ⟨-, rfl⟩ := h
        exact pG_ret (r := none) rfl ⟨rfl, rfl⟩
      · rw [if_neg hc8] at h
        refine pG_iff (t := 31) rfl rfl hc8 ?_
        refine pG_many 1 (pc1 := 28) (L1 := [some (.ref 211), some (.int p0)]) (st1 := [.ref 211]) (M1 := mjTo Z) rfl ?_
        cases hq9 : f205_goOn  Z with
        | none => rw [hq9] at h; cases h
        | some w =>
          obtain ⟨v10, Z11⟩ := w
          rw [hq9, mjBd_some] at h
          refine pG_callV (k2 := 205) (As := [.ref 211]) (rest := []) rfl rfl rfl rfl rfl (by rfl) (by decide) (f205_goOn_ok hq9) ?_
          rintro r9 M9 ⟨rfl, rfl⟩
          show pG 212 31 [some (.ref 211), some (.int p0)] [] (mjTo Z11) _
          simp only [Option.some.injEq, Prod.mk.injEq] at h
          obtain ⟨-, rfl⟩ := h
          exact pG_ret (r := none) rfl ⟨rfl, rfl⟩
    · rw [if_neg hc4] at h
      refine pG_iff (t := 20) rfl rfl hc4 ?_
      refine pG_many 2 (pc1 := 9) (L1 := [some (.ref 211), some (.int p0)]) (st1 := [.int p0, .ref 211]) (M1 := mjTo Z) rfl ?_
      cases hq12 : f209_isSignHere p0 Z with
      | none => rw [hq12] at h; cases h
      | some v13 =>
        rw [hq12, mjBp_some] at h
        refine pG_callV (k2 := 209) (As := [.ref 211, .int p0]) (rest := []) rfl rfl rfl rfl rfl (by rfl) (by decide) (f209_isSignHere_ok hq12) ?_
        rintro r9 M9 ⟨rfl, rfl⟩
        show pG 212 12 [some (.ref 211), some (.int p0)] [.int v13] (mjTo Z) _
        by_cases hc15 : mjCmp .ne v13 0 = true
        · rw [if_pos hc15] at h
          refine pG_ift (t := 20) rfl rfl hc15 ?_
          refine pG_many 1 (pc1 := 21) (L1 := [some (.ref 211), some (.int p0)]) (st1 := [.ref 211]) (M1 := mjTo Z) rfl ?_
          refine pG_callV (k2 := 207) (As := [.ref 211]) (rest := []) rfl rfl rfl rfl rfl (by rfl) (by decide) (f207_isGood_ok hq1) ?_
          rintro r9 M9 ⟨rfl, rfl⟩
          show pG 212 24 [some (.ref 211), some (.int p0)] [.int v2] (mjTo Z) _
          by_cases hc19 : mjCmp .eq v2 0 = true
          · rw [if_pos hc19] at h
            refine pG_ift (t := 31) rfl rfl hc19 ?_
            simp only [Option.some.injEq, Prod.mk.injEq] at h
            obtain ⟨-, rfl⟩ := h
            exact pG_ret (r := none) rfl ⟨rfl, rfl⟩
          · rw [if_neg hc19] at h
            refine pG_iff (t := 31) rfl rfl hc19 ?_
            refine pG_many 1 (pc1 := 28) (L1 := [some (.ref 211), some (.int p0)]) (st1 := [.ref 211]) (M1 := mjTo Z) rfl ?_
            cases hq20 : f205_goOn  Z with
            | none => rw [hq20] at h; cases h
            | some w =>
              obtain ⟨v21, Z22⟩ := w
              rw [hq20, mjBd_some] at h
              refine pG_callV (k2 := 205) (As := [.ref 211]) (rest := []) rfl rfl rfl rfl rfl (by rfl) (by decide) (f205_goOn_ok hq20) ?_
              rintro r9 M9 ⟨rfl, rfl⟩
              show pG 212 31 [some (.ref 211), some (.int p0)] [] (mjTo Z22) _
              simp only [Option.some.injEq, Prod.mk.injEq] at h
              obtain ⟨-, rfl⟩ := h
              exact pG_ret (r := none) rfl ⟨rfl, rfl⟩
        · rw [if_neg hc15] at h
          refine pG_iff (t := 20) rfl rfl hc15 ?_
          refine pG_many 2 (pc1 := 17) (L1 := [some (.ref 211), some (.int p0)]) (st1 := [.int 2, .ref 211]) (M1 := mjTo Z) rfl ?_
          cases hq23 : f206_wrong 2 Z with
          | none => rw [hq23] at h; cases h
          | some w =>
            obtain ⟨v24, Z25⟩ := w
            rw [hq23, mjBd_some] at h
            refine pG_callV (k2 := 206) (As := [.ref 211, .int 2]) (rest := []) rfl rfl rfl rfl rfl (by rfl) (by decide) (f206_wrong_ok hq23) ?_
            rintro r9 M9 ⟨rfl, rfl⟩
            show pG 212 20 [some (.ref 211), some (.int p0)] [] (mjTo Z25) _
            refine pG_many 1 (pc1 := 21) (L1 := [some (.ref 211), some (.int p0)]) (st1 := [.ref 211]) (M1 := mjTo Z25) rfl ?_
            cases hq26 : f207_isGood  Z25 with
            | none => rw [hq26] at h; cases h
            | some v27 =>
              rw [hq26, mjBp_some] at h
              refine pG_callV (k2 := 207) (As := [.ref 211]) (rest := []) rfl rfl rfl rfl rfl (by rfl) (by decide) (f207_isGood_ok hq26) ?_
              rintro r9 M9 ⟨rfl, rfl⟩
              show pG 212 24 [some (.ref 211), some (.int p0)] [.int v27] (mjTo Z25) _
              by_cases hc29 : mjCmp .eq v27 0 = true
              · rw [if_pos hc29] at h
                refine pG_ift (t := 31) rfl rfl hc29 ?_
                simp only [Option.some.injEq, Prod.mk.injEq] at h
                obtain ⟨-, rfl⟩ := h
                exact pG_ret (r := none) rfl ⟨rfl, rfl⟩
              · rw [if_neg hc29] at h
                refine pG_iff (t := 31) rfl rfl hc29 ?_
                refine pG_many 1 (pc1 := 28) (L1 := [some (.ref 211), some (.int p0)]) (st1 := [.ref 211]) (M1 := mjTo Z25) rfl ?_
                cases hq30 : f205_goOn  Z25 with
                | none => rw [hq30] at h; cases h
                | some w =>
                  obtain ⟨v31, Z32⟩ := w
                  rw [hq30, mjBd_some] at h
                  refine pG_callV (k2 := 205) (As := [.ref 211]) (rest := []) rfl rfl rfl rfl rfl (by rfl) (by decide) (f205_goOn_ok hq30) ?_
                  rintro r9 M9 ⟨rfl, rfl⟩
                  show pG 212 31 [some (.ref 211), some (.int p0)] [] (mjTo Z32) _
                  simp only [Option.some.injEq, Prod.mk.injEq] at h
                  obtain ⟨-, rfl⟩ := h
                  exact pG_ret (r := none) rfl ⟨rfl, rfl⟩
def f213_number_j20 (x1 : Int32) (x2 : Int32) (Z : mjZt) : Option (Int32 × mjZt) :=
  mjBp (f207_isGood  Z) fun v6 =>
  if mjCmp .eq v6 0 = true then
    if mjCmp .eq v6 0 = true then
      some (Z.1 211 8, Z)
    else
      mjBd (f205_goOn  Z) fun _ Z15 =>
      some (Z.1 211 8, Z15)
  else
    mjBp (f195_isIn (Int32.toInt64 (Z.1 211 8)) (Int32.toInt64 x1) (Int32.toInt64 x2) Z) fun v17 =>
    if mjCmp .ne v17 0 = true then
      if mjCmp .eq v6 0 = true then
        some (Z.1 211 8, Z)
      else
        mjBd (f205_goOn  Z) fun _ Z26 =>
        some (Z.1 211 8, Z26)
    else
      mjBd (f206_wrong 4 Z) fun _ Z29 =>
      mjBp (f207_isGood  Z29) fun v31 =>
      if mjCmp .eq v31 0 = true then
        some (Z.1 211 8, Z29)
      else
        mjBd (f205_goOn  Z29) fun _ Z36 =>
        some (Z.1 211 8, Z36)
theorem f213_number_j20_ok (x1 : Int32) (x2 : Int32) (d3 : Option Value) (Z : mjZt) (v9 : Int32) (Z9 : mjZt) (h : f213_number_j20 x1 x2 Z = some (v9, Z9)) : pG 213 20 [some (.ref 211), some (.int x1), some (.int x2), d3] [] (mjTo Z) (fun r M1 => r = some (.int v9) ∧ M1 = mjTo Z9) := by
  unfold f213_number_j20 at h
  refine pG_many 1 (pc1 := 21) (L1 := [some (.ref 211), some (.int x1), some (.int x2), d3]) (st1 := [.ref 211]) (M1 := mjTo Z) rfl ?_
  refine pG_getI (ci := 12) (f := 8) rfl rfl (Or.inl rfl) (by rfl) ?_
  refine pG_many 2 (pc1 := 26) (L1 := [some (.ref 211), some (.int x1), some (.int x2), some (.int (Z.1 211 8))]) (st1 := [.ref 211]) (M1 := mjTo Z) rfl ?_
  cases hq5 : f207_isGood  Z with
  | none => rw [hq5] at h; cases h
  | some v6 =>
    rw [hq5, mjBp_some] at h
    refine pG_callV (k2 := 207) (As := [.ref 211]) (rest := []) rfl rfl rfl rfl rfl (by rfl) (by decide) (f207_isGood_ok hq5) ?_
    rintro r9 M9 ⟨rfl, rfl⟩
    show pG 213 29 [some (.ref 211), some (.int x1), some (.int x2), some (.int (Z.1 211 8))] [.int v6] (mjTo Z) _
    by_cases hc8 : mjCmp .eq v6 0 = true
    · rw [if_pos hc8] at h
      refine pG_ift (t := 49) rfl rfl hc8 ?_
      refine pG_many 1 (pc1 := 50) (L1 := [some (.ref 211), some (.int x1), some (.int x2), some (.int (Z.1 211 8))]) (st1 := [.ref 211]) (M1 := mjTo Z) rfl ?_
      refine pG_callV (k2 := 207) (As := [.ref 211]) (rest := []) rfl rfl rfl rfl rfl (by rfl) (by decide) (f207_isGood_ok hq5) ?_
      rintro r9 M9 ⟨rfl, rfl⟩
      show pG 213 53 [some (.ref 211), some (.int x1), some (.int x2), some (.int (Z.1 211 8))] [.int v6] (mjTo Z) _
      by_cases hc12 : mjCmp .eq v6 0 = true
      · rw [if_pos hc12] at h
        refine pG_ift (t := 60) rfl rfl hc12 ?_
        refine pG_many 1 (pc1 := 61) (L1 := [some (.ref 211), some (.int x1), some (.int x2), some (.int (Z.1 211 8))]) (st1 := [.int (Z.1 211 8)]) (M1 := mjTo Z) rfl ?_
        simp only [Option.some.injEq, Prod.mk.injEq] at h
        obtain ⟨rfl, rfl⟩ := h
        exact pG_ret (r := some (.int (Z.1 211 8))) rfl ⟨rfl, rfl⟩
      · rw [if_neg hc12] at h
        refine pG_iff (t := 60) rfl rfl hc12 ?_
        refine pG_many 1 (pc1 := 57) (L1 := [some (.ref 211), some (.int x1), some (.int x2), some (.int (Z.1 211 8))]) (st1 := [.ref 211]) (M1 := mjTo Z) rfl ?_
        cases hq13 : f205_goOn  Z with
        | none => rw [hq13] at h; cases h
        | some w =>
          obtain ⟨v14, Z15⟩ := w
          rw [hq13, mjBd_some] at h
          refine pG_callV (k2 := 205) (As := [.ref 211]) (rest := []) rfl rfl rfl rfl rfl (by rfl) (by decide) (f205_goOn_ok hq13) ?_
          rintro r9 M9 ⟨rfl, rfl⟩
          show pG 213 60 [some (.ref 211), some (.int x1), some (.int x2), some (.int (Z.1 211 8))] [] (mjTo Z15) _
          refine pG_many 1 (pc1 := 61) (L1 := [some (.ref 211), some (.int x1), some (.int x2), some (.int (Z.1 211 8))]) (st1 := [.int (Z.1 211 8)]) (M1 := mjTo Z15) rfl ?_
          simp only [Option.some.injEq, Prod.mk.injEq] at h
          obtain ⟨rfl, rfl⟩ := h
          exact pG_ret (r := some (.int (Z.1 211 8))) rfl ⟨rfl, rfl⟩
    · rw [if_neg hc8] at h
      refine pG_iff (t := 49) rfl rfl hc8 ?_
      refine pG_many 6 (pc1 := 38) (L1 := [some (.ref 211), some (.int x1), some (.int x2), some (.int (Z.1 211 8))]) (st1 := [.long (Int32.toInt64 x2), .long (Int32.toInt64 x1), .long (Int32.toInt64 (Z.1 211 8))]) (M1 := mjTo Z) rfl ?_
      cases hq16 : f195_isIn (Int32.toInt64 (Z.1 211 8)) (Int32.toInt64 x1) (Int32.toInt64 x2) Z with
      | none => rw [hq16] at h; cases h
      | some v17 =>
        rw [hq16, mjBp_some] at h
        refine pG_call (k2 := 195) (As := [.long (Int32.toInt64 (Z.1 211 8)), .long (Int32.toInt64 x1), .long (Int32.toInt64 x2)]) (rest := []) rfl (by decide) (f195_isIn_ok hq16) ?_
        rintro r9 M9 ⟨rfl, rfl⟩
        show pG 213 41 [some (.ref 211), some (.int x1), some (.int x2), some (.int (Z.1 211 8))] [.int v17] (mjTo Z) _
        by_cases hc19 : mjCmp .ne v17 0 = true
        · rw [if_pos hc19] at h
          refine pG_ift (t := 49) rfl rfl hc19 ?_
          refine pG_many 1 (pc1 := 50) (L1 := [some (.ref 211), some (.int x1), some (.int x2), some (.int (Z.1 211 8))]) (st1 := [.ref 211]) (M1 := mjTo Z) rfl ?_
          refine pG_callV (k2 := 207) (As := [.ref 211]) (rest := []) rfl rfl rfl rfl rfl (by rfl) (by decide) (f207_isGood_ok hq5) ?_
          rintro r9 M9 ⟨rfl, rfl⟩
          show pG 213 53 [some (.ref 211), some (.int x1), some (.int x2), some (.int (Z.1 211 8))] [.int v6] (mjTo Z) _
          by_cases hc23 : mjCmp .eq v6 0 = true
          · rw [if_pos hc23] at h
            refine pG_ift (t := 60) rfl rfl hc23 ?_
            refine pG_many 1 (pc1 := 61) (L1 := [some (.ref 211), some (.int x1), some (.int x2), some (.int (Z.1 211 8))]) (st1 := [.int (Z.1 211 8)]) (M1 := mjTo Z) rfl ?_
            simp only [Option.some.injEq, Prod.mk.injEq] at h
            obtain ⟨rfl, rfl⟩ := h
            exact pG_ret (r := some (.int (Z.1 211 8))) rfl ⟨rfl, rfl⟩
          · rw [if_neg hc23] at h
            refine pG_iff (t := 60) rfl rfl hc23 ?_
            refine pG_many 1 (pc1 := 57) (L1 := [some (.ref 211), some (.int x1), some (.int x2), some (.int (Z.1 211 8))]) (st1 := [.ref 211]) (M1 := mjTo Z) rfl ?_
            cases hq24 : f205_goOn  Z with
            | none => rw [hq24] at h; cases h
            | some w =>
              obtain ⟨v25, Z26⟩ := w
              rw [hq24, mjBd_some] at h
              refine pG_callV (k2 := 205) (As := [.ref 211]) (rest := []) rfl rfl rfl rfl rfl (by rfl) (by decide) (f205_goOn_ok hq24) ?_
              rintro r9 M9 ⟨rfl, rfl⟩
              show pG 213 60 [some (.ref 211), some (.int x1), some (.int x2), some (.int (Z.1 211 8))] [] (mjTo Z26) _
              refine pG_many 1 (pc1 := 61) (L1 := [some (.ref 211), some (.int x1), some (.int x2), some (.int (Z.1 211 8))]) (st1 := [.int (Z.1 211 8)]) (M1 := mjTo Z26) rfl ?_
              simp only [Option.some.injEq, Prod.mk.injEq] at h
              obtain ⟨rfl, rfl⟩ := h
              exact pG_ret (r := some (.int (Z.1 211 8))) rfl ⟨rfl, rfl⟩
        · rw [if_neg hc19] at h
          refine pG_iff (t := 49) rfl rfl hc19 ?_
          refine pG_many 2 (pc1 := 46) (L1 := [some (.ref 211), some (.int x1), some (.int x2), some (.int (Z.1 211 8))]) (st1 := [.int 4, .ref 211]) (M1 := mjTo Z) rfl ?_
          cases hq27 : f206_wrong 4 Z with
          | none => rw [hq27] at h; cases h
          | some w =>
            obtain ⟨v28, Z29⟩ := w
            rw [hq27, mjBd_some] at h
            refine pG_callV (k2 := 206) (As := [.ref 211, .int 4]) (rest := []) rfl rfl rfl rfl rfl (by rfl) (by decide) (f206_wrong_ok hq27) ?_
            rintro r9 M9 ⟨rfl, rfl⟩
            show pG 213 49 [some (.ref 211), some (.int x1), some (.int x2), some (.int (Z.1 211 8))] [] (mjTo Z29) _
            refine pG_many 1 (pc1 := 50) (L1 := [some (.ref 211), some (.int x1), some (.int x2), some (.int (Z.1 211 8))]) (st1 := [.ref 211]) (M1 := mjTo Z29) rfl ?_
            cases hq30 : f207_isGood  Z29 with
            | none => rw [hq30] at h; cases h
            | some v31 =>
              rw [hq30, mjBp_some] at h
              refine pG_callV (k2 := 207) (As := [.ref 211]) (rest := []) rfl rfl rfl rfl rfl (by rfl) (by decide) (f207_isGood_ok hq30) ?_
              rintro r9 M9 ⟨rfl, rfl⟩
              show pG 213 53 [some (.ref 211), some (.int x1), some (.int x2), some (.int (Z.1 211 8))] [.int v31] (mjTo Z29) _
              by_cases hc33 : mjCmp .eq v31 0 = true
              · rw [if_pos hc33] at h
                refine pG_ift (t := 60) rfl rfl hc33 ?_
                refine pG_many 1 (pc1 := 61) (L1 := [some (.ref 211), some (.int x1), some (.int x2), some (.int (Z.1 211 8))]) (st1 := [.int (Z.1 211 8)]) (M1 := mjTo Z29) rfl ?_
                simp only [Option.some.injEq, Prod.mk.injEq] at h
                obtain ⟨rfl, rfl⟩ := h
                exact pG_ret (r := some (.int (Z.1 211 8))) rfl ⟨rfl, rfl⟩
              · rw [if_neg hc33] at h
                refine pG_iff (t := 60) rfl rfl hc33 ?_
                refine pG_many 1 (pc1 := 57) (L1 := [some (.ref 211), some (.int x1), some (.int x2), some (.int (Z.1 211 8))]) (st1 := [.ref 211]) (M1 := mjTo Z29) rfl ?_
                cases hq34 : f205_goOn  Z29 with
                | none => rw [hq34] at h; cases h
                | some w =>
                  obtain ⟨v35, Z36⟩ := w
                  rw [hq34, mjBd_some] at h
                  refine pG_callV (k2 := 205) (As := [.ref 211]) (rest := []) rfl rfl rfl rfl rfl (by rfl) (by decide) (f205_goOn_ok hq34) ?_
                  rintro r9 M9 ⟨rfl, rfl⟩
                  show pG 213 60 [some (.ref 211), some (.int x1), some (.int x2), some (.int (Z.1 211 8))] [] (mjTo Z36) _
                  refine pG_many 1 (pc1 := 61) (L1 := [some (.ref 211), some (.int x1), some (.int x2), some (.int (Z.1 211 8))]) (st1 := [.int (Z.1 211 8)]) (M1 := mjTo Z36) rfl ?_
                  simp only [Option.some.injEq, Prod.mk.injEq] at h
                  obtain ⟨rfl, rfl⟩ := h
                  exact pG_ret (r := some (.int (Z.1 211 8))) rfl ⟨rfl, rfl⟩
def f213_number (p0 : Int32) (p1 : Int32) (Z : mjZt) : Option (Int32 × mjZt) :=
  mjBp (f207_isGood  Z) fun v2 =>
  if mjCmp .eq v2 0 = true then
    f213_number_j20 p0 p1 Z
  else
    if mjCmp .eq (Z.1 211 7) 2 = true then
      f213_number_j20 p0 p1 Z
    else
      mjBd (f206_wrong 2 Z) fun _ Z40 =>
      f213_number_j20 p0 p1 Z40
theorem f213_number_ok {p0 : Int32} {p1 : Int32} {Z : mjZt} {v9 : Int32} {Z9 : mjZt} (h : f213_number p0 p1 Z = some (v9, Z9)) : pG 213 0 (mjEnt [.ref 211, .int p0, .int p1] (mjML 213)) [] (mjTo Z) (fun r M1 => r = some (.int v9) ∧ M1 = mjTo Z9) := by
  unfold f213_number at h
  show pG 213 0 [some (.ref 211), some (.int p0), some (.int p1), none] [] (mjTo Z) _
  refine pG_many 1 (pc1 := 1) (L1 := [some (.ref 211), some (.int p0), some (.int p1), none]) (st1 := [.ref 211]) (M1 := mjTo Z) rfl ?_
  cases hq1 : f207_isGood  Z with
  | none => rw [hq1] at h; cases h
  | some v2 =>
    rw [hq1, mjBp_some] at h
    refine pG_callV (k2 := 207) (As := [.ref 211]) (rest := []) rfl rfl rfl rfl rfl (by rfl) (by decide) (f207_isGood_ok hq1) ?_
    rintro r9 M9 ⟨rfl, rfl⟩
    show pG 213 4 [some (.ref 211), some (.int p0), some (.int p1), none] [.int v2] (mjTo Z) _
    by_cases hc4 : mjCmp .eq v2 0 = true
    · rw [if_pos hc4] at h
      refine pG_ift (t := 20) rfl rfl hc4 ?_
      exact f213_number_j20_ok p0 p1 none Z v9 Z9 h
    · rw [if_neg hc4] at h
      refine pG_iff (t := 20) rfl rfl hc4 ?_
      refine pG_many 1 (pc1 := 8) (L1 := [some (.ref 211), some (.int p0), some (.int p1), none]) (st1 := [.ref 211]) (M1 := mjTo Z) rfl ?_
      refine pG_getI (ci := 12) (f := 7) rfl rfl (Or.inl rfl) (by rfl) ?_
      refine pG_many 1 (pc1 := 12) (L1 := [some (.ref 211), some (.int p0), some (.int p1), none]) (st1 := [.int 2, .int (Z.1 211 7)]) (M1 := mjTo Z) rfl ?_
      by_cases hc37 : mjCmp .eq (Z.1 211 7) 2 = true
      · rw [if_pos hc37] at h
        refine pG_cmt (t := 20) rfl rfl hc37 ?_
        exact f213_number_j20_ok p0 p1 none Z v9 Z9 h
      · rw [if_neg hc37] at h
        refine pG_cmf (t := 20) rfl rfl hc37 ?_
        refine pG_many 2 (pc1 := 17) (L1 := [some (.ref 211), some (.int p0), some (.int p1), none]) (st1 := [.int 2, .ref 211]) (M1 := mjTo Z) rfl ?_
        cases hq38 : f206_wrong 2 Z with
        | none => rw [hq38] at h; cases h
        | some w =>
          obtain ⟨v39, Z40⟩ := w
          rw [hq38, mjBd_some] at h
          refine pG_callV (k2 := 206) (As := [.ref 211, .int 2]) (rest := []) rfl rfl rfl rfl rfl (by rfl) (by decide) (f206_wrong_ok hq38) ?_
          rintro r9 M9 ⟨rfl, rfl⟩
          show pG 213 20 [some (.ref 211), some (.int p0), some (.int p1), none] [] (mjTo Z40) _
          exact f213_number_j20_ok p0 p1 none Z40 v9 Z9 h
def f214_emits (p0 : Int32) (Z : mjZt) : Option (Unit × mjZt) :=
  if mjIn (Z.1 211 17) 1500 = true then
  mjLet (zSi Z 215 (mjIx (Z.1 211 17)) p0) fun Z2 =>
  mjLet (zSi Z2 211 17 ((Z2.1 211 17) + 1)) fun Z3 =>
  some ((), Z3)
  else none
theorem f214_emits_ok {p0 : Int32} {Z : mjZt} {v9 : Unit} {Z9 : mjZt} (h : f214_emits p0 Z = some (v9, Z9)) : pG 214 0 (mjEnt [.ref 211, .int p0] (mjML 214)) [] (mjTo Z) (fun r M1 => r = none ∧ M1 = mjTo Z9) := by
  unfold f214_emits at h
  show pG 214 0 [some (.ref 211), some (.int p0)] [] (mjTo Z) _
  refine pG_many 1 (pc1 := 1) (L1 := [some (.ref 211), some (.int p0)]) (st1 := [.ref 211]) (M1 := mjTo Z) rfl ?_
  refine pG_getR (ci := 12) (f := 14) (b := 215) rfl rfl rfl (by rfl) rfl ?_
  refine pG_many 1 (pc1 := 5) (L1 := [some (.ref 211), some (.int p0)]) (st1 := [.ref 211, .ref 215]) (M1 := mjTo Z) rfl ?_
  refine pG_getI (ci := 12) (f := 17) rfl rfl (Or.inl rfl) (by rfl) ?_
  refine pG_many 1 (pc1 := 9) (L1 := [some (.ref 211), some (.int p0)]) (st1 := [.int p0, .int (Z.1 211 17), .ref 215]) (M1 := mjTo Z) rfl ?_
  have hk1 : mjIn (Z.1 211 17) 1500 = true := by
    by_cases q9 : mjIn (Z.1 211 17) 1500 = true
    · exact q9
    · rw [if_neg q9] at h; cases h
  rw [if_pos hk1] at h
  refine pG_ias rfl (by rfl) hk1 (?_ : pG 214 10 [some (.ref 211), some (.int p0)] [] (mjTo (zSi Z 215 (mjIx (Z.1 211 17)) p0)) _)
  rw [mjLet] at h
  generalize zSi Z 215 (mjIx (Z.1 211 17)) p0 = Z2 at h ⊢
  refine pG_many 2 (pc1 := 12) (L1 := [some (.ref 211), some (.int p0)]) (st1 := [.ref 211, .ref 211]) (M1 := mjTo Z2) rfl ?_
  refine pG_getI (ci := 12) (f := 17) rfl rfl (Or.inl rfl) (by rfl) ?_
  refine pG_many 2 (pc1 := 17) (L1 := [some (.ref 211), some (.int p0)]) (st1 := [.int ((Z2.1 211 17) + 1), .ref 211]) (M1 := mjTo Z2) rfl ?_
  refine pG_putI (ci := 12) (f := 17) rfl rfl rfl rfl (by rfl) ?_
  rw [mjLet] at h
  generalize zSi Z2 211 17 ((Z2.1 211 17) + 1) = Z3 at h ⊢
  simp only [Option.some.injEq, Prod.mk.injEq] at h
  obtain ⟨-, rfl⟩ := h
  exact pG_ret (r := none) rfl ⟨rfl, rfl⟩
def f215_waitsFor (p0 : Int32) (Z : mjZt) : Option (Unit × mjZt) :=
  if mjIn (Z.1 211 18) 800 = true then
  mjLet (zSi Z 217 (mjIx (Z.1 211 18)) p0) fun Z2 =>
  mjLet (zSi Z2 211 18 ((Z2.1 211 18) + 1)) fun Z3 =>
  some ((), Z3)
  else none
theorem f215_waitsFor_ok {p0 : Int32} {Z : mjZt} {v9 : Unit} {Z9 : mjZt} (h : f215_waitsFor p0 Z = some (v9, Z9)) : pG 215 0 (mjEnt [.ref 211, .int p0] (mjML 215)) [] (mjTo Z) (fun r M1 => r = none ∧ M1 = mjTo Z9) := by
  unfold f215_waitsFor at h
  show pG 215 0 [some (.ref 211), some (.int p0)] [] (mjTo Z) _
  refine pG_many 1 (pc1 := 1) (L1 := [some (.ref 211), some (.int p0)]) (st1 := [.ref 211]) (M1 := mjTo Z) rfl ?_
  refine pG_getR (ci := 12) (f := 16) (b := 217) rfl rfl rfl (by rfl) rfl ?_
  refine pG_many 1 (pc1 := 5) (L1 := [some (.ref 211), some (.int p0)]) (st1 := [.ref 211, .ref 217]) (M1 := mjTo Z) rfl ?_
  refine pG_getI (ci := 12) (f := 18) rfl rfl (Or.inl rfl) (by rfl) ?_
  refine pG_many 1 (pc1 := 9) (L1 := [some (.ref 211), some (.int p0)]) (st1 := [.int p0, .int (Z.1 211 18), .ref 217]) (M1 := mjTo Z) rfl ?_
  have hk1 : mjIn (Z.1 211 18) 800 = true := by
    by_cases q9 : mjIn (Z.1 211 18) 800 = true
    · exact q9
    · rw [if_neg q9] at h; cases h
  rw [if_pos hk1] at h
  refine pG_ias rfl (by rfl) hk1 (?_ : pG 215 10 [some (.ref 211), some (.int p0)] [] (mjTo (zSi Z 217 (mjIx (Z.1 211 18)) p0)) _)
  rw [mjLet] at h
  generalize zSi Z 217 (mjIx (Z.1 211 18)) p0 = Z2 at h ⊢
  refine pG_many 2 (pc1 := 12) (L1 := [some (.ref 211), some (.int p0)]) (st1 := [.ref 211, .ref 211]) (M1 := mjTo Z2) rfl ?_
  refine pG_getI (ci := 12) (f := 18) rfl rfl (Or.inl rfl) (by rfl) ?_
  refine pG_many 2 (pc1 := 17) (L1 := [some (.ref 211), some (.int p0)]) (st1 := [.int ((Z2.1 211 18) + 1), .ref 211]) (M1 := mjTo Z2) rfl ?_
  refine pG_putI (ci := 12) (f := 18) rfl rfl rfl rfl (by rfl) ?_
  rw [mjLet] at h
  generalize zSi Z2 211 18 ((Z2.1 211 18) + 1) = Z3 at h ⊢
  simp only [Option.some.injEq, Prod.mk.injEq] at h
  obtain ⟨-, rfl⟩ := h
  exact pG_ret (r := none) rfl ⟨rfl, rfl⟩
def f216_top  (Z : mjZt) : Option Int32 :=
  if mjCmp .le (Z.1 211 18) (Z.1 211 19) = true then
    some ((-1))
  else
    if mjIn ((Z.1 211 18) - 1) 800 = true then
    some (Z.1 217 (mjIx ((Z.1 211 18) - 1)))
    else none
theorem f216_top_ok  {Z : mjZt} {v9 : Int32} (h : f216_top  Z = some v9) : pG 216 0 (mjEnt [.ref 211] (mjML 216)) [] (mjTo Z) (fun r M1 => r = some (.int v9) ∧ M1 = mjTo Z) := by
  unfold f216_top at h
  show pG 216 0 [some (.ref 211)] [] (mjTo Z) _
  refine pG_many 1 (pc1 := 1) (L1 := [some (.ref 211)]) (st1 := [.ref 211]) (M1 := mjTo Z) rfl ?_
  refine pG_getI (ci := 12) (f := 18) rfl rfl (Or.inl rfl) (by rfl) ?_
  refine pG_many 1 (pc1 := 5) (L1 := [some (.ref 211)]) (st1 := [.ref 211, .int (Z.1 211 18)]) (M1 := mjTo Z) rfl ?_
  refine pG_getI (ci := 12) (f := 19) rfl rfl (Or.inl rfl) (by rfl) ?_
  by_cases hc1 : mjCmp .le (Z.1 211 18) (Z.1 211 19) = true
  · rw [if_pos hc1] at h
    refine pG_cmt (t := 25) rfl rfl hc1 ?_
    refine pG_many 1 (pc1 := 26) (L1 := [some (.ref 211)]) (st1 := [.int ((-1))]) (M1 := mjTo Z) rfl ?_
    simp only [Option.some.injEq] at h
    subst h
    exact pG_ret (r := some (.int ((-1)))) rfl ⟨rfl, rfl⟩
  · rw [if_neg hc1] at h
    refine pG_cmf (t := 25) rfl rfl hc1 ?_
    refine pG_many 1 (pc1 := 12) (L1 := [some (.ref 211)]) (st1 := [.ref 211]) (M1 := mjTo Z) rfl ?_
    refine pG_getR (ci := 12) (f := 16) (b := 217) rfl rfl rfl (by rfl) rfl ?_
    refine pG_many 1 (pc1 := 16) (L1 := [some (.ref 211)]) (st1 := [.ref 211, .ref 217]) (M1 := mjTo Z) rfl ?_
    refine pG_getI (ci := 12) (f := 18) rfl rfl (Or.inl rfl) (by rfl) ?_
    refine pG_many 2 (pc1 := 21) (L1 := [some (.ref 211)]) (st1 := [.int ((Z.1 211 18) - 1), .ref 217]) (M1 := mjTo Z) rfl ?_
    have hk2 : mjIn ((Z.1 211 18) - 1) 800 = true := by
      by_cases q9 : mjIn ((Z.1 211 18) - 1) 800 = true
      · exact q9
      · rw [if_neg q9] at h; cases h
    rw [if_pos hk2] at h
    refine pG_ial rfl (by rfl) hk2 ?_
    refine pG_many 1 (pc1 := 26) (L1 := [some (.ref 211)]) (st1 := [.int (Z.1 217 (mjIx ((Z.1 211 18) - 1)))]) (M1 := mjTo Z) rfl ?_
    simp only [Option.some.injEq] at h
    subst h
    exact pG_ret (r := some (.int (Z.1 217 (mjIx ((Z.1 211 18) - 1))))) rfl ⟨rfl, rfl⟩
def f217_opens_j15 (x1 : Int32) (Z : mjZt) : Option (Unit × mjZt) :=
  mjLet (zSi Z 211 20 ((Z.1 211 20) + 1)) fun Z2 =>
  mjBd (f215_waitsFor x1 Z2) fun _ Z5 =>
  mjBp (f207_isGood  Z5) fun v7 =>
  if mjCmp .eq v7 0 = true then
    some ((), Z5)
  else
    mjBd (f205_goOn  Z5) fun _ Z12 =>
    some ((), Z12)
theorem f217_opens_j15_ok (x1 : Int32) (Z : mjZt) (v9 : Unit) (Z9 : mjZt) (h : f217_opens_j15 x1 Z = some (v9, Z9)) : pG 217 15 [some (.ref 211), some (.int x1)] [] (mjTo Z) (fun r M1 => r = none ∧ M1 = mjTo Z9) := by
  unfold f217_opens_j15 at h
  refine pG_many 2 (pc1 := 17) (L1 := [some (.ref 211), some (.int x1)]) (st1 := [.ref 211, .ref 211]) (M1 := mjTo Z) rfl ?_
  refine pG_getI (ci := 12) (f := 20) rfl rfl (Or.inl rfl) (by rfl) ?_
  refine pG_many 2 (pc1 := 22) (L1 := [some (.ref 211), some (.int x1)]) (st1 := [.int ((Z.1 211 20) + 1), .ref 211]) (M1 := mjTo Z) rfl ?_
  refine pG_putI (ci := 12) (f := 20) rfl rfl rfl rfl (by rfl) ?_
  rw [mjLet] at h
  generalize zSi Z 211 20 ((Z.1 211 20) + 1) = Z2 at h ⊢
  refine pG_many 2 (pc1 := 27) (L1 := [some (.ref 211), some (.int x1)]) (st1 := [.int x1, .ref 211]) (M1 := mjTo Z2) rfl ?_
  cases hq3 : f215_waitsFor x1 Z2 with
  | none => rw [hq3] at h; cases h
  | some w =>
    obtain ⟨v4, Z5⟩ := w
    rw [hq3, mjBd_some] at h
    refine pG_callV (k2 := 215) (As := [.ref 211, .int x1]) (rest := []) rfl rfl rfl rfl rfl (by rfl) (by decide) (f215_waitsFor_ok hq3) ?_
    rintro r9 M9 ⟨rfl, rfl⟩
    show pG 217 30 [some (.ref 211), some (.int x1)] [] (mjTo Z5) _
    refine pG_many 1 (pc1 := 31) (L1 := [some (.ref 211), some (.int x1)]) (st1 := [.ref 211]) (M1 := mjTo Z5) rfl ?_
    cases hq6 : f207_isGood  Z5 with
    | none => rw [hq6] at h; cases h
    | some v7 =>
      rw [hq6, mjBp_some] at h
      refine pG_callV (k2 := 207) (As := [.ref 211]) (rest := []) rfl rfl rfl rfl rfl (by rfl) (by decide) (f207_isGood_ok hq6) ?_
      rintro r9 M9 ⟨rfl, rfl⟩
      show pG 217 34 [some (.ref 211), some (.int x1)] [.int v7] (mjTo Z5) _
      by_cases hc9 : mjCmp .eq v7 0 = true
      · rw [if_pos hc9] at h
        refine pG_ift (t := 41) rfl rfl hc9 ?_
        simp only [Option.some.injEq, Prod.mk.injEq] at h
        obtain ⟨-, rfl⟩ := h
        exact pG_ret (r := none) rfl ⟨rfl, rfl⟩
      · rw [if_neg hc9] at h
        refine pG_iff (t := 41) rfl rfl hc9 ?_
        refine pG_many 1 (pc1 := 38) (L1 := [some (.ref 211), some (.int x1)]) (st1 := [.ref 211]) (M1 := mjTo Z5) rfl ?_
        cases hq10 : f205_goOn  Z5 with
        | none => rw [hq10] at h; cases h
        | some w =>
          obtain ⟨v11, Z12⟩ := w
          rw [hq10, mjBd_some] at h
          refine pG_callV (k2 := 205) (As := [.ref 211]) (rest := []) rfl rfl rfl rfl rfl (by rfl) (by decide) (f205_goOn_ok hq10) ?_
          rintro r9 M9 ⟨rfl, rfl⟩
          show pG 217 41 [some (.ref 211), some (.int x1)] [] (mjTo Z12) _
          simp only [Option.some.injEq, Prod.mk.injEq] at h
          obtain ⟨-, rfl⟩ := h
          exact pG_ret (r := none) rfl ⟨rfl, rfl⟩
def f217_opens (p0 : Int32) (Z : mjZt) : Option (Unit × mjZt) :=
  if mjCmp .ne (Z.1 211 20) 6 = true then
    f217_opens_j15 p0 Z
  else
    mjBd (f206_wrong 7 Z) fun _ Z15 =>
    f217_opens_j15 p0 Z15
theorem f217_opens_ok {p0 : Int32} {Z : mjZt} {v9 : Unit} {Z9 : mjZt} (h : f217_opens p0 Z = some (v9, Z9)) : pG 217 0 (mjEnt [.ref 211, .int p0] (mjML 217)) [] (mjTo Z) (fun r M1 => r = none ∧ M1 = mjTo Z9) := by
  unfold f217_opens at h
  show pG 217 0 [some (.ref 211), some (.int p0)] [] (mjTo Z) _
  refine pG_many 1 (pc1 := 1) (L1 := [some (.ref 211), some (.int p0)]) (st1 := [.ref 211]) (M1 := mjTo Z) rfl ?_
  refine pG_getI (ci := 12) (f := 20) rfl rfl (Or.inl rfl) (by rfl) ?_
  refine pG_many 1 (pc1 := 6) (L1 := [some (.ref 211), some (.int p0)]) (st1 := [.int 6, .int (Z.1 211 20)]) (M1 := mjTo Z) rfl ?_
  by_cases hc1 : mjCmp .ne (Z.1 211 20) 6 = true
  · rw [if_pos hc1] at h
    refine pG_cmt (t := 15) rfl rfl hc1 ?_
    exact f217_opens_j15_ok p0 Z v9 Z9 h
  · rw [if_neg hc1] at h
    refine pG_cmf (t := 15) rfl rfl hc1 ?_
    refine pG_many 2 (pc1 := 12) (L1 := [some (.ref 211), some (.int p0)]) (st1 := [.int 7, .ref 211]) (M1 := mjTo Z) rfl ?_
    cases hq13 : f206_wrong 7 Z with
    | none => rw [hq13] at h; cases h
    | some w =>
      obtain ⟨v14, Z15⟩ := w
      rw [hq13, mjBd_some] at h
      refine pG_callV (k2 := 206) (As := [.ref 211, .int 7]) (rest := []) rfl rfl rfl rfl rfl (by rfl) (by decide) (f206_wrong_ok hq13) ?_
      rintro r9 M9 ⟨rfl, rfl⟩
      show pG 217 15 [some (.ref 211), some (.int p0)] [] (mjTo Z15) _
      exact f217_opens_j15_ok p0 Z15 v9 Z9 h
def f218_works_h0 : Nat → Int32 → Int32 → mjZt → Option (Unit × mjZt)
  | 0, _, _, _ => none
  | n + 1, x1, x2, Z =>
    mjBp (f216_top  Z) fun v2 =>
    mjBp (f195_isIn (Int32.toInt64 v2) (Int32.toInt64 x1) (Int32.toInt64 x2) Z) fun v5 =>
    if mjCmp .eq v5 0 = true then
      some ((), Z)
    else
      mjLet (zSi Z 211 18 ((Z.1 211 18) - 1)) fun Z8 =>
      if mjIn (Z8.1 211 18) 800 = true then
      mjBd (f214_emits (Z8.1 217 (mjIx (Z8.1 211 18))) Z8) fun _ Z12 =>
      f218_works_h0 n x1 x2 Z12
      else none
theorem f218_works_h0_ok : ∀ (n : Nat) (x1 : Int32) (x2 : Int32) (Z : mjZt) (v9 : Unit) (Z9 : mjZt), f218_works_h0 n x1 x2 Z = some (v9, Z9) → pG 218 0 [some (.ref 211), some (.int x1), some (.int x2)] [] (mjTo Z) (fun r M1 => r = none ∧ M1 = mjTo Z9)
  | 0, x1, x2, Z, v9, Z9, h => by rw [f218_works_h0] at h; cases h
  | n + 1, x1, x2, Z, v9, Z9, h => by
      rw [f218_works_h0] at h
      refine pG_many 1 (pc1 := 1) (L1 := [some (.ref 211), some (.int x1), some (.int x2)]) (st1 := [.ref 211]) (M1 := mjTo Z) rfl ?_
      cases hq1 : f216_top  Z with
      | none => rw [hq1] at h; cases h
      | some v2 =>
        rw [hq1, mjBp_some] at h
        refine pG_callV (k2 := 216) (As := [.ref 211]) (rest := []) rfl rfl rfl rfl rfl (by rfl) (by decide) (f216_top_ok hq1) ?_
        rintro r9 M9 ⟨rfl, rfl⟩
        show pG 218 4 [some (.ref 211), some (.int x1), some (.int x2)] [.int v2] (mjTo Z) _
        refine pG_many 5 (pc1 := 9) (L1 := [some (.ref 211), some (.int x1), some (.int x2)]) (st1 := [.long (Int32.toInt64 x2), .long (Int32.toInt64 x1), .long (Int32.toInt64 v2)]) (M1 := mjTo Z) rfl ?_
        cases hq4 : f195_isIn (Int32.toInt64 v2) (Int32.toInt64 x1) (Int32.toInt64 x2) Z with
        | none => rw [hq4] at h; cases h
        | some v5 =>
          rw [hq4, mjBp_some] at h
          refine pG_call (k2 := 195) (As := [.long (Int32.toInt64 v2), .long (Int32.toInt64 x1), .long (Int32.toInt64 x2)]) (rest := []) rfl (by decide) (f195_isIn_ok hq4) ?_
          rintro r9 M9 ⟨rfl, rfl⟩
          show pG 218 12 [some (.ref 211), some (.int x1), some (.int x2)] [.int v5] (mjTo Z) _
          by_cases hc7 : mjCmp .eq v5 0 = true
          · rw [if_pos hc7] at h
            refine pG_ift (t := 41) rfl rfl hc7 ?_
            simp only [Option.some.injEq, Prod.mk.injEq] at h
            obtain ⟨-, rfl⟩ := h
            exact pG_ret (r := none) rfl ⟨rfl, rfl⟩
          · rw [if_neg hc7] at h
            refine pG_iff (t := 41) rfl rfl hc7 ?_
            refine pG_many 2 (pc1 := 17) (L1 := [some (.ref 211), some (.int x1), some (.int x2)]) (st1 := [.ref 211, .ref 211]) (M1 := mjTo Z) rfl ?_
            refine pG_getI (ci := 12) (f := 18) rfl rfl (Or.inl rfl) (by rfl) ?_
            refine pG_many 2 (pc1 := 22) (L1 := [some (.ref 211), some (.int x1), some (.int x2)]) (st1 := [.int ((Z.1 211 18) - 1), .ref 211]) (M1 := mjTo Z) rfl ?_
            refine pG_putI (ci := 12) (f := 18) rfl rfl rfl rfl (by rfl) ?_
            rw [mjLet] at h
            generalize zSi Z 211 18 ((Z.1 211 18) - 1) = Z8 at h ⊢
            refine pG_many 2 (pc1 := 27) (L1 := [some (.ref 211), some (.int x1), some (.int x2)]) (st1 := [.ref 211, .ref 211]) (M1 := mjTo Z8) rfl ?_
            refine pG_getR (ci := 12) (f := 16) (b := 217) rfl rfl rfl (by rfl) rfl ?_
            refine pG_many 1 (pc1 := 31) (L1 := [some (.ref 211), some (.int x1), some (.int x2)]) (st1 := [.ref 211, .ref 217, .ref 211]) (M1 := mjTo Z8) rfl ?_
            refine pG_getI (ci := 12) (f := 18) rfl rfl (Or.inl rfl) (by rfl) ?_
            have hk9 : mjIn (Z8.1 211 18) 800 = true := by
              by_cases q9 : mjIn (Z8.1 211 18) 800 = true
              · exact q9
              · rw [if_neg q9] at h; cases h
            rw [if_pos hk9] at h
            refine pG_ial rfl (by rfl) hk9 ?_
            cases hq10 : f214_emits (Z8.1 217 (mjIx (Z8.1 211 18))) Z8 with
            | none => rw [hq10] at h; cases h
            | some w =>
              obtain ⟨v11, Z12⟩ := w
              rw [hq10, mjBd_some] at h
              refine pG_callV (k2 := 214) (As := [.ref 211, .int (Z8.1 217 (mjIx (Z8.1 211 18)))]) (rest := []) rfl rfl rfl rfl rfl (by rfl) (by decide) (f214_emits_ok hq10) ?_
              rintro r9 M9 ⟨rfl, rfl⟩
              show pG 218 38 [some (.ref 211), some (.int x1), some (.int x2)] [] (mjTo Z12) _
              refine pG_many 1 (pc1 := 0) (L1 := [some (.ref 211), some (.int x1), some (.int x2)]) (st1 := []) (M1 := mjTo Z12) rfl ?_
              exact f218_works_h0_ok n x1 x2 Z12 v9 Z9 h
def f218_works (p0 : Int32) (p1 : Int32) (Z : mjZt) : Option (Unit × mjZt) :=
  f218_works_h0 mjF p0 p1 Z
theorem f218_works_ok {p0 : Int32} {p1 : Int32} {Z : mjZt} {v9 : Unit} {Z9 : mjZt} (h : f218_works p0 p1 Z = some (v9, Z9)) : pG 218 0 (mjEnt [.ref 211, .int p0, .int p1] (mjML 218)) [] (mjTo Z) (fun r M1 => r = none ∧ M1 = mjTo Z9) := by
  unfold f218_works at h
  show pG 218 0 [some (.ref 211), some (.int p0), some (.int p1)] [] (mjTo Z) _
  exact f218_works_h0_ok mjF p0 p1 Z v9 Z9 h
