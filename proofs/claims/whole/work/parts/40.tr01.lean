def f1_tell (a0 : Nat) (p0 : Int32) (p1 : Int32) (p2 : Int32) (p3 : Int32) (p4 : Int32) (Z : mjZt) : Option (Unit × mjZt) :=
  if mjIs a0 251 0 = true then
  mjLet (zSi Z a0 0 p0) fun Z2 =>
  mjLet (zSi Z2 a0 1 p1) fun Z3 =>
  mjLet (zSi Z3 a0 2 p2) fun Z4 =>
  mjLet (zSi Z4 a0 3 p3) fun Z5 =>
  mjLet (zSi Z5 a0 4 p4) fun Z6 =>
  some ((), Z6)
  else none
theorem f1_tell_ok {a0 : Nat} {p0 : Int32} {p1 : Int32} {p2 : Int32} {p3 : Int32} {p4 : Int32} {Z : mjZt} {v9 : Unit} {Z9 : mjZt} (h : f1_tell a0 p0 p1 p2 p3 p4 Z = some (v9, Z9)) : pG 1 0 (mjEnt [.ref a0, .int p0, .int p1, .int p2, .int p3, .int p4] (mjML 1)) [] (mjTo Z) (fun r M1 => r = none ∧ M1 = mjTo Z9) := by
  unfold f1_tell at h
  show pG 1 0 [some (.ref a0), some (.int p0), some (.int p1), some (.int p2), some (.int p3), some (.int p4)] [] (mjTo Z) _
  refine pG_many 2 (pc1 := 2) (L1 := [some (.ref a0), some (.int p0), some (.int p1), some (.int p2), some (.int p3), some (.int p4)]) (st1 := [.int p0, .ref a0]) (M1 := mjTo Z) rfl ?_
  have hk1 : mjIs a0 251 0 = true := by
    by_cases q9 : mjIs a0 251 0 = true
    · exact q9
    · rw [if_neg q9] at h; cases h
  rw [if_pos hk1] at h
  refine pG_putI (ci := 0) (f := 0) rfl rfl rfl rfl hk1 ?_
  rw [mjLet] at h
  generalize zSi Z a0 0 p0 = Z2 at h ⊢
  refine pG_many 2 (pc1 := 7) (L1 := [some (.ref a0), some (.int p0), some (.int p1), some (.int p2), some (.int p3), some (.int p4)]) (st1 := [.int p1, .ref a0]) (M1 := mjTo Z2) rfl ?_
  refine pG_putI (ci := 0) (f := 1) rfl rfl rfl rfl hk1 ?_
  rw [mjLet] at h
  generalize zSi Z2 a0 1 p1 = Z3 at h ⊢
  refine pG_many 2 (pc1 := 12) (L1 := [some (.ref a0), some (.int p0), some (.int p1), some (.int p2), some (.int p3), some (.int p4)]) (st1 := [.int p2, .ref a0]) (M1 := mjTo Z3) rfl ?_
  refine pG_putI (ci := 0) (f := 2) rfl rfl rfl rfl hk1 ?_
  rw [mjLet] at h
  generalize zSi Z3 a0 2 p2 = Z4 at h ⊢
  refine pG_many 2 (pc1 := 18) (L1 := [some (.ref a0), some (.int p0), some (.int p1), some (.int p2), some (.int p3), some (.int p4)]) (st1 := [.int p3, .ref a0]) (M1 := mjTo Z4) rfl ?_
  refine pG_putI (ci := 0) (f := 3) rfl rfl rfl rfl hk1 ?_
  rw [mjLet] at h
  generalize zSi Z4 a0 3 p3 = Z5 at h ⊢
  refine pG_many 2 (pc1 := 24) (L1 := [some (.ref a0), some (.int p0), some (.int p1), some (.int p2), some (.int p3), some (.int p4)]) (st1 := [.int p4, .ref a0]) (M1 := mjTo Z5) rfl ?_
  refine pG_putI (ci := 0) (f := 4) rfl rfl rfl rfl hk1 ?_
  rw [mjLet] at h
  generalize zSi Z5 a0 4 p4 = Z6 at h ⊢
  simp only [Option.some.injEq, Prod.mk.injEq] at h
  obtain ⟨-, rfl⟩ := h
  exact pG_ret (r := none) rfl ⟨rfl, rfl⟩
def f3_forget  (Z : mjZt) : Option (Unit × mjZt) :=
  mjLet (zSi Z 209 2 0) fun Z1 =>
  some ((), Z1)
theorem f3_forget_ok  {Z : mjZt} {v9 : Unit} {Z9 : mjZt} (h : f3_forget  Z = some (v9, Z9)) : pG 3 0 (mjEnt [.ref 209] (mjML 3)) [] (mjTo Z) (fun r M1 => r = none ∧ M1 = mjTo Z9) := by
  unfold f3_forget at h
  show pG 3 0 [some (.ref 209)] [] (mjTo Z) _
  refine pG_many 2 (pc1 := 2) (L1 := [some (.ref 209)]) (st1 := [.int 0, .ref 209]) (M1 := mjTo Z) rfl ?_
  refine pG_putI (ci := 1) (f := 2) rfl rfl rfl rfl (by rfl) ?_
  rw [mjLet] at h
  generalize zSi Z 209 2 0 = Z1 at h ⊢
  simp only [Option.some.injEq, Prod.mk.injEq] at h
  obtain ⟨-, rfl⟩ := h
  exact pG_ret (r := none) rfl ⟨rfl, rfl⟩
def f4_keep_j97 (s1 : Int32) (Z : mjZt) : Option (Unit × mjZt) :=
  mjLet (zSi Z 209 1 s1) fun Z14 =>
  mjLet (zSi Z14 209 2 (mjMin ((Z14.1 209 2) + 1) 10)) fun Z15 =>
  some ((), Z15)
theorem f4_keep_j97_ok (s1 : Int32) (d1 d2 d3 d4 d5 d6 : Option Value) (Z : mjZt) (v9 : Unit) (Z9 : mjZt) (h : f4_keep_j97 s1 Z = some (v9, Z9)) : pG 4 97 [some (.ref 209), d1, d2, d3, d4, d5, d6] [.int s1, .ref 209] (mjTo Z) (fun r M1 => r = none ∧ M1 = mjTo Z9) := by
  unfold f4_keep_j97 at h
  refine pG_putI (ci := 1) (f := 1) rfl rfl rfl rfl (by rfl) ?_
  rw [mjLet] at h
  generalize zSi Z 209 1 s1 = Z14 at h ⊢
  refine pG_many 2 (pc1 := 102) (L1 := [some (.ref 209), d1, d2, d3, d4, d5, d6]) (st1 := [.ref 209, .ref 209]) (M1 := mjTo Z14) rfl ?_
  refine pG_getI (ci := 1) (f := 2) rfl rfl (Or.inl rfl) (by rfl) ?_
  refine pG_many 3 (pc1 := 109) (L1 := [some (.ref 209), d1, d2, d3, d4, d5, d6]) (st1 := [.int 10, .int ((Z14.1 209 2) + 1), .ref 209]) (M1 := mjTo Z14) rfl ?_
  refine pG_prim (v := .int (mjMin ((Z14.1 209 2) + 1) 10)) rfl (by decide) rfl ?_
  refine pG_putI (ci := 1) (f := 2) rfl rfl rfl rfl (by rfl) ?_
  rw [mjLet] at h
  generalize zSi Z14 209 2 (mjMin ((Z14.1 209 2) + 1) 10) = Z15 at h ⊢
  simp only [Option.some.injEq, Prod.mk.injEq] at h
  obtain ⟨-, rfl⟩ := h
  exact pG_ret (r := none) rfl ⟨rfl, rfl⟩
def f4_keep (p0 : Int32) (p1 : Int32) (p2 : Int32) (p3 : Int32) (p4 : Int32) (Z : mjZt) : Option (Unit × mjZt) :=
  if mjCmp .lt ((Z.1 209 1) * 5) 0 = true then
    some ((), Z)
  else
    if mjCmp .gt (((Z.1 209 1) * 5) + 5) 50 = true then
      some ((), Z)
    else
      if mjIn ((Z.1 209 1) * 5) 50 = true then
      mjLet (zSi Z 210 (mjIx ((Z.1 209 1) * 5)) p0) fun Z4 =>
      if mjIn (((Z.1 209 1) * 5) + 1) 50 = true then
      mjLet (zSi Z4 210 (mjIx (((Z.1 209 1) * 5) + 1)) p1) fun Z6 =>
      if mjIn (((Z.1 209 1) * 5) + 2) 50 = true then
      mjLet (zSi Z6 210 (mjIx (((Z.1 209 1) * 5) + 2)) p2) fun Z8 =>
      if mjIn (((Z.1 209 1) * 5) + 3) 50 = true then
      mjLet (zSi Z8 210 (mjIx (((Z.1 209 1) * 5) + 3)) p3) fun Z10 =>
      if mjIn (((Z.1 209 1) * 5) + 4) 50 = true then
      mjLet (zSi Z10 210 (mjIx (((Z.1 209 1) * 5) + 4)) p4) fun Z12 =>
      if mjCmp .ge ((Z12.1 209 1) + 1) 10 = true then
        f4_keep_j97 0 Z12
      else
        f4_keep_j97 ((Z12.1 209 1) + 1) Z12
      else none
      else none
      else none
      else none
      else none
theorem f4_keep_ok {p0 : Int32} {p1 : Int32} {p2 : Int32} {p3 : Int32} {p4 : Int32} {Z : mjZt} {v9 : Unit} {Z9 : mjZt} (h : f4_keep p0 p1 p2 p3 p4 Z = some (v9, Z9)) : pG 4 0 (mjEnt [.ref 209, .int p0, .int p1, .int p2, .int p3, .int p4] (mjML 4)) [] (mjTo Z) (fun r M1 => r = none ∧ M1 = mjTo Z9) := by
  unfold f4_keep at h
  show pG 4 0 [some (.ref 209), some (.int p0), some (.int p1), some (.int p2), some (.int p3), some (.int p4), none] [] (mjTo Z) _
  refine pG_many 1 (pc1 := 1) (L1 := [some (.ref 209), some (.int p0), some (.int p1), some (.int p2), some (.int p3), some (.int p4), none]) (st1 := [.ref 209]) (M1 := mjTo Z) rfl ?_
  refine pG_getI (ci := 1) (f := 1) rfl rfl (Or.inl rfl) (by rfl) ?_
  refine pG_many 4 (pc1 := 10) (L1 := [some (.ref 209), some (.int p0), some (.int p1), some (.int p2), some (.int p3), some (.int p4), some (.int ((Z.1 209 1) * 5))]) (st1 := [.int ((Z.1 209 1) * 5)]) (M1 := mjTo Z) rfl ?_
  by_cases hc1 : mjCmp .lt ((Z.1 209 1) * 5) 0 = true
  · rw [if_pos hc1] at h
    refine pG_ift (t := 115) rfl rfl hc1 ?_
    simp only [Option.some.injEq, Prod.mk.injEq] at h
    obtain ⟨-, rfl⟩ := h
    exact pG_ret (r := none) rfl ⟨rfl, rfl⟩
  · rw [if_neg hc1] at h
    refine pG_iff (t := 115) rfl rfl hc1 ?_
    refine pG_many 4 (pc1 := 18) (L1 := [some (.ref 209), some (.int p0), some (.int p1), some (.int p2), some (.int p3), some (.int p4), some (.int ((Z.1 209 1) * 5))]) (st1 := [.ref 209, .int (((Z.1 209 1) * 5) + 5)]) (M1 := mjTo Z) rfl ?_
    refine pG_getR (ci := 1) (f := 0) (b := 210) rfl rfl rfl (by rfl) rfl ?_
    refine pG_len rfl (by decide) (by decide) (by decide) ?_
    by_cases hc2 : mjCmp .gt (((Z.1 209 1) * 5) + 5) 50 = true
    · rw [if_pos hc2] at h
      refine pG_cmt (t := 115) rfl rfl hc2 ?_
      simp only [Option.some.injEq, Prod.mk.injEq] at h
      obtain ⟨-, rfl⟩ := h
      exact pG_ret (r := none) rfl ⟨rfl, rfl⟩
    · rw [if_neg hc2] at h
      refine pG_cmf (t := 115) rfl rfl hc2 ?_
      refine pG_many 1 (pc1 := 26) (L1 := [some (.ref 209), some (.int p0), some (.int p1), some (.int p2), some (.int p3), some (.int p4), some (.int ((Z.1 209 1) * 5))]) (st1 := [.ref 209]) (M1 := mjTo Z) rfl ?_
      refine pG_getR (ci := 1) (f := 0) (b := 210) rfl rfl rfl (by rfl) rfl ?_
      refine pG_many 2 (pc1 := 32) (L1 := [some (.ref 209), some (.int p0), some (.int p1), some (.int p2), some (.int p3), some (.int p4), some (.int ((Z.1 209 1) * 5))]) (st1 := [.int p0, .int ((Z.1 209 1) * 5), .ref 210]) (M1 := mjTo Z) rfl ?_
      have hk3 : mjIn ((Z.1 209 1) * 5) 50 = true := by
        by_cases q9 : mjIn ((Z.1 209 1) * 5) 50 = true
        · exact q9
        · rw [if_neg q9] at h; cases h
      rw [if_pos hk3] at h
      refine pG_ias rfl (by rfl) hk3 (?_ : pG 4 33 [some (.ref 209), some (.int p0), some (.int p1), some (.int p2), some (.int p3), some (.int p4), some (.int ((Z.1 209 1) * 5))] [] (mjTo (zSi Z 210 (mjIx ((Z.1 209 1) * 5)) p0)) _)
      rw [mjLet] at h
      generalize zSi Z 210 (mjIx ((Z.1 209 1) * 5)) p0 = Z4 at h ⊢
      refine pG_many 1 (pc1 := 34) (L1 := [some (.ref 209), some (.int p0), some (.int p1), some (.int p2), some (.int p3), some (.int p4), some (.int ((Z.1 209 1) * 5))]) (st1 := [.ref 209]) (M1 := mjTo Z4) rfl ?_
      refine pG_getR (ci := 1) (f := 0) (b := 210) rfl rfl rfl (by rfl) rfl ?_
      refine pG_many 4 (pc1 := 42) (L1 := [some (.ref 209), some (.int p0), some (.int p1), some (.int p2), some (.int p3), some (.int p4), some (.int ((Z.1 209 1) * 5))]) (st1 := [.int p1, .int (((Z.1 209 1) * 5) + 1), .ref 210]) (M1 := mjTo Z4) rfl ?_
      have hk5 : mjIn (((Z.1 209 1) * 5) + 1) 50 = true := by
        by_cases q9 : mjIn (((Z.1 209 1) * 5) + 1) 50 = true
        · exact q9
        · rw [if_neg q9] at h; cases h
      rw [if_pos hk5] at h
      refine pG_ias rfl (by rfl) hk5 (?_ : pG 4 43 [some (.ref 209), some (.int p0), some (.int p1), some (.int p2), some (.int p3), some (.int p4), some (.int ((Z.1 209 1) * 5))] [] (mjTo (zSi Z4 210 (mjIx (((Z.1 209 1) * 5) + 1)) p1)) _)
      rw [mjLet] at h
      generalize zSi Z4 210 (mjIx (((Z.1 209 1) * 5) + 1)) p1 = Z6 at h ⊢
      refine pG_many 1 (pc1 := 44) (L1 := [some (.ref 209), some (.int p0), some (.int p1), some (.int p2), some (.int p3), some (.int p4), some (.int ((Z.1 209 1) * 5))]) (st1 := [.ref 209]) (M1 := mjTo Z6) rfl ?_
      refine pG_getR (ci := 1) (f := 0) (b := 210) rfl rfl rfl (by rfl) rfl ?_
      refine pG_many 4 (pc1 := 52) (L1 := [some (.ref 209), some (.int p0), some (.int p1), some (.int p2), some (.int p3), some (.int p4), some (.int ((Z.1 209 1) * 5))]) (st1 := [.int p2, .int (((Z.1 209 1) * 5) + 2), .ref 210]) (M1 := mjTo Z6) rfl ?_
      have hk7 : mjIn (((Z.1 209 1) * 5) + 2) 50 = true := by
        by_cases q9 : mjIn (((Z.1 209 1) * 5) + 2) 50 = true
        · exact q9
        · rw [if_neg q9] at h; cases h
      rw [if_pos hk7] at h
      refine pG_ias rfl (by rfl) hk7 (?_ : pG 4 53 [some (.ref 209), some (.int p0), some (.int p1), some (.int p2), some (.int p3), some (.int p4), some (.int ((Z.1 209 1) * 5))] [] (mjTo (zSi Z6 210 (mjIx (((Z.1 209 1) * 5) + 2)) p2)) _)
      rw [mjLet] at h
      generalize zSi Z6 210 (mjIx (((Z.1 209 1) * 5) + 2)) p2 = Z8 at h ⊢
      refine pG_many 1 (pc1 := 54) (L1 := [some (.ref 209), some (.int p0), some (.int p1), some (.int p2), some (.int p3), some (.int p4), some (.int ((Z.1 209 1) * 5))]) (st1 := [.ref 209]) (M1 := mjTo Z8) rfl ?_
      refine pG_getR (ci := 1) (f := 0) (b := 210) rfl rfl rfl (by rfl) rfl ?_
      refine pG_many 4 (pc1 := 63) (L1 := [some (.ref 209), some (.int p0), some (.int p1), some (.int p2), some (.int p3), some (.int p4), some (.int ((Z.1 209 1) * 5))]) (st1 := [.int p3, .int (((Z.1 209 1) * 5) + 3), .ref 210]) (M1 := mjTo Z8) rfl ?_
      have hk9 : mjIn (((Z.1 209 1) * 5) + 3) 50 = true := by
        by_cases q9 : mjIn (((Z.1 209 1) * 5) + 3) 50 = true
        · exact q9
        · rw [if_neg q9] at h; cases h
      rw [if_pos hk9] at h
      refine pG_ias rfl (by rfl) hk9 (?_ : pG 4 64 [some (.ref 209), some (.int p0), some (.int p1), some (.int p2), some (.int p3), some (.int p4), some (.int ((Z.1 209 1) * 5))] [] (mjTo (zSi Z8 210 (mjIx (((Z.1 209 1) * 5) + 3)) p3)) _)
      rw [mjLet] at h
      generalize zSi Z8 210 (mjIx (((Z.1 209 1) * 5) + 3)) p3 = Z10 at h ⊢
      refine pG_many 1 (pc1 := 65) (L1 := [some (.ref 209), some (.int p0), some (.int p1), some (.int p2), some (.int p3), some (.int p4), some (.int ((Z.1 209 1) * 5))]) (st1 := [.ref 209]) (M1 := mjTo Z10) rfl ?_
      refine pG_getR (ci := 1) (f := 0) (b := 210) rfl rfl rfl (by rfl) rfl ?_
      refine pG_many 4 (pc1 := 74) (L1 := [some (.ref 209), some (.int p0), some (.int p1), some (.int p2), some (.int p3), some (.int p4), some (.int ((Z.1 209 1) * 5))]) (st1 := [.int p4, .int (((Z.1 209 1) * 5) + 4), .ref 210]) (M1 := mjTo Z10) rfl ?_
      have hk11 : mjIn (((Z.1 209 1) * 5) + 4) 50 = true := by
        by_cases q9 : mjIn (((Z.1 209 1) * 5) + 4) 50 = true
        · exact q9
        · rw [if_neg q9] at h; cases h
      rw [if_pos hk11] at h
      refine pG_ias rfl (by rfl) hk11 (?_ : pG 4 75 [some (.ref 209), some (.int p0), some (.int p1), some (.int p2), some (.int p3), some (.int p4), some (.int ((Z.1 209 1) * 5))] [] (mjTo (zSi Z10 210 (mjIx (((Z.1 209 1) * 5) + 4)) p4)) _)
      rw [mjLet] at h
      generalize zSi Z10 210 (mjIx (((Z.1 209 1) * 5) + 4)) p4 = Z12 at h ⊢
      refine pG_many 2 (pc1 := 77) (L1 := [some (.ref 209), some (.int p0), some (.int p1), some (.int p2), some (.int p3), some (.int p4), some (.int ((Z.1 209 1) * 5))]) (st1 := [.ref 209, .ref 209]) (M1 := mjTo Z12) rfl ?_
      refine pG_getI (ci := 1) (f := 1) rfl rfl (Or.inl rfl) (by rfl) ?_
      refine pG_many 3 (pc1 := 84) (L1 := [some (.ref 209), some (.int p0), some (.int p1), some (.int p2), some (.int p3), some (.int p4), some (.int ((Z.1 209 1) * 5))]) (st1 := [.int 10, .int ((Z12.1 209 1) + 1), .ref 209]) (M1 := mjTo Z12) rfl ?_
      by_cases hc13 : mjCmp .ge ((Z12.1 209 1) + 1) 10 = true
      · rw [if_pos hc13] at h
        refine pG_cmt (t := 96) rfl rfl hc13 ?_
        refine pG_many 1 (pc1 := 97) (L1 := [some (.ref 209), some (.int p0), some (.int p1), some (.int p2), some (.int p3), some (.int p4), some (.int ((Z.1 209 1) * 5))]) (st1 := [.int 0, .ref 209]) (M1 := mjTo Z12) rfl ?_
        exact f4_keep_j97_ok 0 (some (.int p0)) (some (.int p1)) (some (.int p2)) (some (.int p3)) (some (.int p4)) (some (.int ((Z.1 209 1) * 5))) Z12 v9 Z9 h
      · rw [if_neg hc13] at h
        refine pG_cmf (t := 96) rfl rfl hc13 ?_
        refine pG_many 1 (pc1 := 88) (L1 := [some (.ref 209), some (.int p0), some (.int p1), some (.int p2), some (.int p3), some (.int p4), some (.int ((Z.1 209 1) * 5))]) (st1 := [.ref 209, .ref 209]) (M1 := mjTo Z12) rfl ?_
        refine pG_getI (ci := 1) (f := 1) rfl rfl (Or.inl rfl) (by rfl) ?_
        refine pG_many 3 (pc1 := 97) (L1 := [some (.ref 209), some (.int p0), some (.int p1), some (.int p2), some (.int p3), some (.int p4), some (.int ((Z.1 209 1) * 5))]) (st1 := [.int ((Z12.1 209 1) + 1), .ref 209]) (M1 := mjTo Z12) rfl ?_
        exact f4_keep_j97_ok ((Z12.1 209 1) + 1) (some (.int p0)) (some (.int p1)) (some (.int p2)) (some (.int p3)) (some (.int p4)) (some (.int ((Z.1 209 1) * 5))) Z12 v9 Z9 h
def f5_at (p0 : Nat) (p1 : Int32) (Z : mjZt) : Option Int32 :=
  if mjCmp .lt p1 0 = true then
    some 0
  else
    if mjIs p0 251 13 = true then
    if mjCmp .ge p1 (Int32.ofNat (mjLay p0).2) = true then
      some 0
    else
      if mjIn p1 (mjLay p0).2 = true then
      some (Z.1 p0 (mjIx p1))
      else none
    else none
theorem f5_at_ok {p0 : Nat} {p1 : Int32} {Z : mjZt} {v9 : Int32} (h : f5_at p0 p1 Z = some v9) : pG 5 0 (mjEnt [.ref p0, .int p1] (mjML 5)) [] (mjTo Z) (fun r M1 => r = some (.int v9) ∧ M1 = mjTo Z) := by
  unfold f5_at at h
  show pG 5 0 [some (.ref p0), some (.int p1)] [] (mjTo Z) _
  refine pG_many 1 (pc1 := 1) (L1 := [some (.ref p0), some (.int p1)]) (st1 := [.int p1]) (M1 := mjTo Z) rfl ?_
  by_cases hc1 : mjCmp .lt p1 0 = true
  · rw [if_pos hc1] at h
    refine pG_ift (t := 16) rfl rfl hc1 ?_
    refine pG_many 1 (pc1 := 17) (L1 := [some (.ref p0), some (.int p1)]) (st1 := [.int 0]) (M1 := mjTo Z) rfl ?_
    simp only [Option.some.injEq] at h
    subst h
    exact pG_ret (r := some (.int 0)) rfl ⟨rfl, rfl⟩
  · rw [if_neg hc1] at h
    refine pG_iff (t := 16) rfl rfl hc1 ?_
    refine pG_many 2 (pc1 := 6) (L1 := [some (.ref p0), some (.int p1)]) (st1 := [.ref p0, .int p1]) (M1 := mjTo Z) rfl ?_
    have hk2 : mjIs p0 251 13 = true := by
      by_cases q9 : mjIs p0 251 13 = true
      · exact q9
      · rw [if_neg q9] at h; cases h
    rw [if_pos hk2] at h
    refine pG_lenS (c := 13) rfl (by decide) (by decide) hk2 ?_
    by_cases hc3 : mjCmp .ge p1 (Int32.ofNat (mjLay p0).2) = true
    · rw [if_pos hc3] at h
      refine pG_cmt (t := 16) rfl rfl hc3 ?_
      refine pG_many 1 (pc1 := 17) (L1 := [some (.ref p0), some (.int p1)]) (st1 := [.int 0]) (M1 := mjTo Z) rfl ?_
      simp only [Option.some.injEq] at h
      subst h
      exact pG_ret (r := some (.int 0)) rfl ⟨rfl, rfl⟩
    · rw [if_neg hc3] at h
      refine pG_cmf (t := 16) rfl rfl hc3 ?_
      refine pG_many 2 (pc1 := 12) (L1 := [some (.ref p0), some (.int p1)]) (st1 := [.int p1, .ref p0]) (M1 := mjTo Z) rfl ?_
      have hk4 : mjIn p1 (mjLay p0).2 = true := by
        by_cases q9 : mjIn p1 (mjLay p0).2 = true
        · exact q9
        · rw [if_neg q9] at h; cases h
      rw [if_pos hk4] at h
      refine pG_ial rfl hk2 hk4 ?_
      refine pG_many 1 (pc1 := 17) (L1 := [some (.ref p0), some (.int p1)]) (st1 := [.int (Z.1 p0 (mjIx p1))]) (M1 := mjTo Z) rfl ?_
      simp only [Option.some.injEq] at h
      subst h
      exact pG_ret (r := some (.int (Z.1 p0 (mjIx p1)))) rfl ⟨rfl, rfl⟩
def f6_deed (a0 : Nat) (p0 : Int32) (Z : mjZt) : Option Nat :=
  if mjCmp .lt p0 0 = true then
    if mjIs a0 251 2 = true then
    some (a0 + 17)
    else none
  else
    if mjCmp .ge p0 42 = true then
      if mjIs a0 251 2 = true then
      some (a0 + 17)
      else none
    else
      if mjIs a0 251 2 = true then
      if mjIs (a0 + 9) 251 17 = true then
      if mjIn p0 (mjLay (a0 + 9)).2 = true then
      some ((a0 + 9) + 39 + mjIx p0)
      else none
      else none
      else none
theorem f6_deed_ok {a0 : Nat} {p0 : Int32} {Z : mjZt} {v9 : Nat} (h : f6_deed a0 p0 Z = some v9) : pG 6 0 (mjEnt [.ref a0, .int p0] (mjML 6)) [] (mjTo Z) (fun r M1 => r = some (.ref v9) ∧ M1 = mjTo Z) := by
  unfold f6_deed at h
  show pG 6 0 [some (.ref a0), some (.int p0)] [] (mjTo Z) _
  refine pG_many 1 (pc1 := 1) (L1 := [some (.ref a0), some (.int p0)]) (st1 := [.int p0]) (M1 := mjTo Z) rfl ?_
  by_cases hc1 : mjCmp .lt p0 0 = true
  · rw [if_pos hc1] at h
    refine pG_ift (t := 19) rfl rfl hc1 ?_
    refine pG_many 1 (pc1 := 20) (L1 := [some (.ref a0), some (.int p0)]) (st1 := [.ref a0]) (M1 := mjTo Z) rfl ?_
    have hk2 : mjIs a0 251 2 = true := by
      by_cases q9 : mjIs a0 251 2 = true
      · exact q9
      · rw [if_neg q9] at h; cases h
    rw [if_pos hk2] at h
    refine pG_getR (ci := 2) (f := 18) (b := a0 + 17) rfl rfl rfl hk2 (mjRc2_18 hk2) ?_
    simp only [Option.some.injEq] at h
    subst h
    exact pG_ret (r := some (.ref (a0 + 17))) rfl ⟨rfl, rfl⟩
  · rw [if_neg hc1] at h
    refine pG_iff (t := 19) rfl rfl hc1 ?_
    refine pG_many 2 (pc1 := 7) (L1 := [some (.ref a0), some (.int p0)]) (st1 := [.int 42, .int p0]) (M1 := mjTo Z) rfl ?_
    by_cases hc3 : mjCmp .ge p0 42 = true
    · rw [if_pos hc3] at h
      refine pG_cmt (t := 19) rfl rfl hc3 ?_
      refine pG_many 1 (pc1 := 20) (L1 := [some (.ref a0), some (.int p0)]) (st1 := [.ref a0]) (M1 := mjTo Z) rfl ?_
      have hk4 : mjIs a0 251 2 = true := by
        by_cases q9 : mjIs a0 251 2 = true
        · exact q9
        · rw [if_neg q9] at h; cases h
      rw [if_pos hk4] at h
      refine pG_getR (ci := 2) (f := 18) (b := a0 + 17) rfl rfl rfl hk4 (mjRc2_18 hk4) ?_
      simp only [Option.some.injEq] at h
      subst h
      exact pG_ret (r := some (.ref (a0 + 17))) rfl ⟨rfl, rfl⟩
    · rw [if_neg hc3] at h
      refine pG_cmf (t := 19) rfl rfl hc3 ?_
      refine pG_many 1 (pc1 := 11) (L1 := [some (.ref a0), some (.int p0)]) (st1 := [.ref a0]) (M1 := mjTo Z) rfl ?_
      have hk5 : mjIs a0 251 2 = true := by
        by_cases q9 : mjIs a0 251 2 = true
        · exact q9
        · rw [if_neg q9] at h; cases h
      rw [if_pos hk5] at h
      refine pG_getR (ci := 2) (f := 14) (b := a0 + 9) rfl rfl rfl hk5 (mjRc2_14 hk5) ?_
      refine pG_many 1 (pc1 := 15) (L1 := [some (.ref a0), some (.int p0)]) (st1 := [.int p0, .ref (a0 + 9)]) (M1 := mjTo Z) rfl ?_
      have hk6 : mjIs (a0 + 9) 251 17 = true := by
        by_cases q9 : mjIs (a0 + 9) 251 17 = true
        · exact q9
        · rw [if_neg q9] at h; cases h
      rw [if_pos hk6] at h
      have hk7 : mjIn p0 (mjLay (a0 + 9)).2 = true := by
        by_cases q9 : mjIn p0 (mjLay (a0 + 9)).2 = true
        · exact q9
        · rw [if_neg q9] at h; cases h
      rw [if_pos hk7] at h
      refine pG_aal (b := (a0 + 9) + 39 + mjIx p0) rfl (Or.inr hk6) hk7 (mjRa17 hk6 hk7) ?_
      refine pG_many 1 (pc1 := 23) (L1 := [some (.ref a0), some (.int p0)]) (st1 := [.ref ((a0 + 9) + 39 + mjIx p0)]) (M1 := mjTo Z) rfl ?_
      simp only [Option.some.injEq] at h
      subst h
      exact pG_ret (r := some (.ref ((a0 + 9) + 39 + mjIx p0))) rfl ⟨rfl, rfl⟩
def f7_hasTeam (a0 : Nat) (p0 : Int32) (Z : mjZt) : Option Int32 :=
  if mjCmp .lt p0 0 = true then
    some 0
  else
    if mjIs a0 251 2 = true then
    if mjCmp .ge p0 (Z.1 a0 5) = true then
      some 0
    else
      if mjCmp .ge p0 6 = true then
        some 0
      else
        some 1
    else none
theorem f7_hasTeam_ok {a0 : Nat} {p0 : Int32} {Z : mjZt} {v9 : Int32} (h : f7_hasTeam a0 p0 Z = some v9) : pG 7 0 (mjEnt [.ref a0, .int p0] (mjML 7)) [] (mjTo Z) (fun r M1 => r = some (.int v9) ∧ M1 = mjTo Z) := by
  unfold f7_hasTeam at h
  show pG 7 0 [some (.ref a0), some (.int p0)] [] (mjTo Z) _
  refine pG_many 1 (pc1 := 1) (L1 := [some (.ref a0), some (.int p0)]) (st1 := [.int p0]) (M1 := mjTo Z) rfl ?_
  by_cases hc1 : mjCmp .lt p0 0 = true
  · rw [if_pos hc1] at h
    refine pG_ift (t := 22) rfl rfl hc1 ?_
    refine pG_many 1 (pc1 := 23) (L1 := [some (.ref a0), some (.int p0)]) (st1 := [.int 0]) (M1 := mjTo Z) rfl ?_
    simp only [Option.some.injEq] at h
    subst h
    exact pG_ret (r := some (.int 0)) rfl ⟨rfl, rfl⟩
  · rw [if_neg hc1] at h
    refine pG_iff (t := 22) rfl rfl hc1 ?_
    refine pG_many 2 (pc1 := 6) (L1 := [some (.ref a0), some (.int p0)]) (st1 := [.ref a0, .int p0]) (M1 := mjTo Z) rfl ?_
    have hk2 : mjIs a0 251 2 = true := by
      by_cases q9 : mjIs a0 251 2 = true
      · exact q9
      · rw [if_neg q9] at h; cases h
    rw [if_pos hk2] at h
    refine pG_getI (ci := 2) (f := 5) rfl rfl (Or.inl rfl) hk2 ?_
    by_cases hc3 : mjCmp .ge p0 (Z.1 a0 5) = true
    · rw [if_pos hc3] at h
      refine pG_cmt (t := 22) rfl rfl hc3 ?_
      refine pG_many 1 (pc1 := 23) (L1 := [some (.ref a0), some (.int p0)]) (st1 := [.int 0]) (M1 := mjTo Z) rfl ?_
      simp only [Option.some.injEq] at h
      subst h
      exact pG_ret (r := some (.int 0)) rfl ⟨rfl, rfl⟩
    · rw [if_neg hc3] at h
      refine pG_cmf (t := 22) rfl rfl hc3 ?_
      refine pG_many 2 (pc1 := 15) (L1 := [some (.ref a0), some (.int p0)]) (st1 := [.int 6, .int p0]) (M1 := mjTo Z) rfl ?_
      by_cases hc4 : mjCmp .ge p0 6 = true
      · rw [if_pos hc4] at h
        refine pG_cmt (t := 22) rfl rfl hc4 ?_
        refine pG_many 1 (pc1 := 23) (L1 := [some (.ref a0), some (.int p0)]) (st1 := [.int 0]) (M1 := mjTo Z) rfl ?_
        simp only [Option.some.injEq] at h
        subst h
        exact pG_ret (r := some (.int 0)) rfl ⟨rfl, rfl⟩
      · rw [if_neg hc4] at h
        refine pG_cmf (t := 22) rfl rfl hc4 ?_
        refine pG_many 2 (pc1 := 23) (L1 := [some (.ref a0), some (.int p0)]) (st1 := [.int 1]) (M1 := mjTo Z) rfl ?_
        simp only [Option.some.injEq] at h
        subst h
        exact pG_ret (r := some (.int 1)) rfl ⟨rfl, rfl⟩
def f8_runner (a0 : Nat) (p0 : Int32) (Z : mjZt) : Option Nat :=
  if mjIs a0 251 2 = true then
  mjBp (f7_hasTeam a0 p0 Z) fun v3 =>
  if mjCmp .eq v3 0 = true then
    some (a0 + 12)
  else
    if mjIs (a0 + 8) 251 16 = true then
    if mjIn p0 (mjLay (a0 + 8)).2 = true then
    some ((a0 + 8) + 10 + 5 * mjIx p0)
    else none
    else none
  else none
theorem f8_runner_ok {a0 : Nat} {p0 : Int32} {Z : mjZt} {v9 : Nat} (h : f8_runner a0 p0 Z = some v9) : pG 8 0 (mjEnt [.ref a0, .int p0] (mjML 8)) [] (mjTo Z) (fun r M1 => r = some (.ref v9) ∧ M1 = mjTo Z) := by
  unfold f8_runner at h
  show pG 8 0 [some (.ref a0), some (.int p0)] [] (mjTo Z) _
  refine pG_many 2 (pc1 := 2) (L1 := [some (.ref a0), some (.int p0)]) (st1 := [.int p0, .ref a0]) (M1 := mjTo Z) rfl ?_
  have hk1 : mjIs a0 251 2 = true := by
    by_cases q9 : mjIs a0 251 2 = true
    · exact q9
    · rw [if_neg q9] at h; cases h
  rw [if_pos hk1] at h
  cases hq2 : f7_hasTeam a0 p0 Z with
  | none => rw [hq2] at h; cases h
  | some v3 =>
    rw [hq2, mjBp_some] at h
    refine pG_callV (k2 := 7) (As := [.ref a0, .int p0]) (rest := []) rfl rfl rfl rfl rfl (mjRcv_is hk1 (by decide)) (by decide) (f7_hasTeam_ok hq2) ?_
    rintro r9 M9 ⟨rfl, rfl⟩
    show pG 8 5 [some (.ref a0), some (.int p0)] [.int v3] (mjTo Z) _
    by_cases hc5 : mjCmp .eq v3 0 = true
    · rw [if_pos hc5] at h
      refine pG_ift (t := 17) rfl rfl hc5 ?_
      refine pG_many 1 (pc1 := 18) (L1 := [some (.ref a0), some (.int p0)]) (st1 := [.ref a0]) (M1 := mjTo Z) rfl ?_
      refine pG_getR (ci := 2) (f := 17) (b := a0 + 12) rfl rfl rfl hk1 (mjRc2_17 hk1) ?_
      simp only [Option.some.injEq] at h
      subst h
      exact pG_ret (r := some (.ref (a0 + 12))) rfl ⟨rfl, rfl⟩
    · rw [if_neg hc5] at h
      refine pG_iff (t := 17) rfl rfl hc5 ?_
      refine pG_many 1 (pc1 := 9) (L1 := [some (.ref a0), some (.int p0)]) (st1 := [.ref a0]) (M1 := mjTo Z) rfl ?_
      refine pG_getR (ci := 2) (f := 13) (b := a0 + 8) rfl rfl rfl hk1 (mjRc2_13 hk1) ?_
      refine pG_many 1 (pc1 := 13) (L1 := [some (.ref a0), some (.int p0)]) (st1 := [.int p0, .ref (a0 + 8)]) (M1 := mjTo Z) rfl ?_
      have hk6 : mjIs (a0 + 8) 251 16 = true := by
        by_cases q9 : mjIs (a0 + 8) 251 16 = true
        · exact q9
        · rw [if_neg q9] at h; cases h
      rw [if_pos hk6] at h
      have hk7 : mjIn p0 (mjLay (a0 + 8)).2 = true := by
        by_cases q9 : mjIn p0 (mjLay (a0 + 8)).2 = true
        · exact q9
        · rw [if_neg q9] at h; cases h
      rw [if_pos hk7] at h
      refine pG_aal (b := (a0 + 8) + 10 + 5 * mjIx p0) rfl (Or.inl hk6) hk7 (mjRa16 hk6 hk7) ?_
      refine pG_many 1 (pc1 := 21) (L1 := [some (.ref a0), some (.int p0)]) (st1 := [.ref ((a0 + 8) + 10 + 5 * mjIx p0)]) (M1 := mjTo Z) rfl ?_
      simp only [Option.some.injEq] at h
      subst h
      exact pG_ret (r := some (.ref ((a0 + 8) + 10 + 5 * mjIx p0))) rfl ⟨rfl, rfl⟩
def f9_setLeg (a0 : Nat) (p0 : Int32) (p1 : Int32) (p2 : Int32) (Z : mjZt) : Option (Unit × mjZt) :=
  if mjCmp .lt p0 1 = true then
    some ((), Z)
  else
    if mjCmp .gt p0 6 = true then
      some ((), Z)
    else
      if mjIs a0 251 7 = true then
      if mjIs (a0 + 1) 251 13 = true then
      if mjIn p0 (mjLay (a0 + 1)).2 = true then
      mjLet (zSi Z (a0 + 1) (mjIx p0) p1) fun Z6 =>
      if mjIs (a0 + 2) 251 13 = true then
      if mjIn p0 (mjLay (a0 + 2)).2 = true then
      mjLet (zSi Z6 (a0 + 2) (mjIx p0) p2) fun Z9 =>
      some ((), Z9)
      else none
      else none
      else none
      else none
      else none
theorem f9_setLeg_ok {a0 : Nat} {p0 : Int32} {p1 : Int32} {p2 : Int32} {Z : mjZt} {v9 : Unit} {Z9 : mjZt} (h : f9_setLeg a0 p0 p1 p2 Z = some (v9, Z9)) : pG 9 0 (mjEnt [.ref a0, .int p0, .int p1, .int p2] (mjML 9)) [] (mjTo Z) (fun r M1 => r = none ∧ M1 = mjTo Z9) := by
  unfold f9_setLeg at h
  show pG 9 0 [some (.ref a0), some (.int p0), some (.int p1), some (.int p2)] [] (mjTo Z) _
  refine pG_many 2 (pc1 := 2) (L1 := [some (.ref a0), some (.int p0), some (.int p1), some (.int p2)]) (st1 := [.int 1, .int p0]) (M1 := mjTo Z) rfl ?_
  by_cases hc1 : mjCmp .lt p0 1 = true
  · rw [if_pos hc1] at h
    refine pG_cmt (t := 25) rfl rfl hc1 ?_
    simp only [Option.some.injEq, Prod.mk.injEq] at h
    obtain ⟨-, rfl⟩ := h
    exact pG_ret (r := none) rfl ⟨rfl, rfl⟩
  · rw [if_neg hc1] at h
    refine pG_cmf (t := 25) rfl rfl hc1 ?_
    refine pG_many 2 (pc1 := 8) (L1 := [some (.ref a0), some (.int p0), some (.int p1), some (.int p2)]) (st1 := [.int 6, .int p0]) (M1 := mjTo Z) rfl ?_
    by_cases hc2 : mjCmp .gt p0 6 = true
    · rw [if_pos hc2] at h
      refine pG_cmt (t := 25) rfl rfl hc2 ?_
      simp only [Option.some.injEq, Prod.mk.injEq] at h
      obtain ⟨-, rfl⟩ := h
      exact pG_ret (r := none) rfl ⟨rfl, rfl⟩
    · rw [if_neg hc2] at h
      refine pG_cmf (t := 25) rfl rfl hc2 ?_
      refine pG_many 1 (pc1 := 12) (L1 := [some (.ref a0), some (.int p0), some (.int p1), some (.int p2)]) (st1 := [.ref a0]) (M1 := mjTo Z) rfl ?_
      have hk3 : mjIs a0 251 7 = true := by
        by_cases q9 : mjIs a0 251 7 = true
        · exact q9
        · rw [if_neg q9] at h; cases h
      rw [if_pos hk3] at h
      refine pG_getR (ci := 7) (f := 0) (b := a0 + 1) rfl rfl rfl hk3 (mjRc7_0 hk3) ?_
      refine pG_many 2 (pc1 := 17) (L1 := [some (.ref a0), some (.int p0), some (.int p1), some (.int p2)]) (st1 := [.int p1, .int p0, .ref (a0 + 1)]) (M1 := mjTo Z) rfl ?_
      have hk4 : mjIs (a0 + 1) 251 13 = true := by
        by_cases q9 : mjIs (a0 + 1) 251 13 = true
        · exact q9
        · rw [if_neg q9] at h; cases h
      rw [if_pos hk4] at h
      have hk5 : mjIn p0 (mjLay (a0 + 1)).2 = true := by
        by_cases q9 : mjIn p0 (mjLay (a0 + 1)).2 = true
        · exact q9
        · rw [if_neg q9] at h; cases h
      rw [if_pos hk5] at h
      refine pG_ias rfl hk4 hk5 (?_ : pG 9 18 [some (.ref a0), some (.int p0), some (.int p1), some (.int p2)] [] (mjTo (zSi Z (a0 + 1) (mjIx p0) p1)) _)
      rw [mjLet] at h
      generalize zSi Z (a0 + 1) (mjIx p0) p1 = Z6 at h ⊢
      refine pG_many 1 (pc1 := 19) (L1 := [some (.ref a0), some (.int p0), some (.int p1), some (.int p2)]) (st1 := [.ref a0]) (M1 := mjTo Z6) rfl ?_
      refine pG_getR (ci := 7) (f := 1) (b := a0 + 2) rfl rfl rfl hk3 (mjRc7_1 hk3) ?_
      refine pG_many 2 (pc1 := 24) (L1 := [some (.ref a0), some (.int p0), some (.int p1), some (.int p2)]) (st1 := [.int p2, .int p0, .ref (a0 + 2)]) (M1 := mjTo Z6) rfl ?_
      have hk7 : mjIs (a0 + 2) 251 13 = true := by
        by_cases q9 : mjIs (a0 + 2) 251 13 = true
        · exact q9
        · rw [if_neg q9] at h; cases h
      rw [if_pos hk7] at h
      have hk8 : mjIn p0 (mjLay (a0 + 2)).2 = true := by
        by_cases q9 : mjIn p0 (mjLay (a0 + 2)).2 = true
        · exact q9
        · rw [if_neg q9] at h; cases h
      rw [if_pos hk8] at h
      refine pG_ias rfl hk7 hk8 (?_ : pG 9 25 [some (.ref a0), some (.int p0), some (.int p1), some (.int p2)] [] (mjTo (zSi Z6 (a0 + 2) (mjIx p0) p2)) _)
      rw [mjLet] at h
      generalize zSi Z6 (a0 + 2) (mjIx p0) p2 = Z9 at h ⊢
      simp only [Option.some.injEq, Prod.mk.injEq] at h
      obtain ⟨-, rfl⟩ := h
      exact pG_ret (r := none) rfl ⟨rfl, rfl⟩
def f10_takeBack_j27 (x1 : Nat) (s1 : Int32) (Z : mjZt) : Option (Unit × mjZt) :=
  mjLet (zSi Z 209 1 s1) fun Z3 =>
  mjLet (zSi Z3 209 2 ((Z3.1 209 2) - 1)) fun Z4 =>
  mjBp (f5_at 210 (((Z4.1 209 1) * 5) + 1) Z4) fun v6 =>
  mjBp (f5_at 210 (((Z4.1 209 1) * 5) + 2) Z4) fun v9 =>
  mjBp (f5_at 210 ((Z4.1 209 1) * 5) Z4) fun v12 =>
  if (v12).toInt < 0 ∨ 2 < (v12).toInt then
    if mjIs x1 251 2 = true then
    mjBp (f8_runner x1 v6 Z4) fun v17 =>
    mjBp (f5_at 210 (((Z4.1 209 1) * 5) + 3) Z4) fun v20 =>
    mjBp (f5_at 210 (((Z4.1 209 1) * 5) + 4) Z4) fun v23 =>
    if mjIs v17 251 7 = true then
    mjBd (f9_setLeg v17 v9 v20 v23 Z4) fun _ Z28 =>
    some ((), Z28)
    else none
    else none
  else if ((v12).toInt - 0).toNat = 0 then
    if mjIs x1 251 2 = true then
    mjBp (f6_deed x1 v6 Z4) fun v32 =>
    if mjIs v32 251 0 = true then
    mjLet (zSi Z4 v32 3 v9) fun Z35 =>
    some ((), Z35)
    else none
    else none
  else if ((v12).toInt - 0).toNat = 1 then
    if mjIs x1 251 2 = true then
    mjBp (f6_deed x1 v6 Z4) fun v39 =>
    if mjIs v39 251 0 = true then
    mjLet (zSi Z4 v39 4 v9) fun Z42 =>
    some ((), Z42)
    else none
    else none
  else if ((v12).toInt - 0).toNat = 2 then
    if mjIs x1 251 2 = true then
    mjLet (zSl Z4 x1 11 ((Z4.2.1 x1 11) ^^^ (1 <<< (Int32.toInt64 v6 &&& 63)))) fun Z45 =>
    some ((), Z45)
    else none
  else none
theorem f10_takeBack_j27_ok (x1 : Nat) (s1 : Int32) (d2 d3 d4 : Option Value) (Z : mjZt) (v9 : Unit) (Z9 : mjZt) (h : f10_takeBack_j27 x1 s1 Z = some (v9, Z9)) : pG 10 27 [some (.ref 209), some (.ref x1), d2, d3, d4] [.int s1, .ref 209] (mjTo Z) (fun r M1 => r = none ∧ M1 = mjTo Z9) := by
  unfold f10_takeBack_j27 at h
  refine pG_putI (ci := 1) (f := 1) rfl rfl rfl rfl (by rfl) ?_
  rw [mjLet] at h
  generalize zSi Z 209 1 s1 = Z3 at h ⊢
  refine pG_many 2 (pc1 := 32) (L1 := [some (.ref 209), some (.ref x1), d2, d3, d4]) (st1 := [.ref 209, .ref 209]) (M1 := mjTo Z3) rfl ?_
  refine pG_getI (ci := 1) (f := 2) rfl rfl (Or.inl rfl) (by rfl) ?_
  refine pG_many 2 (pc1 := 37) (L1 := [some (.ref 209), some (.ref x1), d2, d3, d4]) (st1 := [.int ((Z3.1 209 2) - 1), .ref 209]) (M1 := mjTo Z3) rfl ?_
  refine pG_putI (ci := 1) (f := 2) rfl rfl rfl rfl (by rfl) ?_
  rw [mjLet] at h
  generalize zSi Z3 209 2 ((Z3.1 209 2) - 1) = Z4 at h ⊢
  refine pG_many 1 (pc1 := 41) (L1 := [some (.ref 209), some (.ref x1), d2, d3, d4]) (st1 := [.ref 209]) (M1 := mjTo Z4) rfl ?_
  refine pG_getI (ci := 1) (f := 1) rfl rfl (Or.inl rfl) (by rfl) ?_
  refine pG_many 4 (pc1 := 48) (L1 := [some (.ref 209), some (.ref x1), some (.int ((Z4.1 209 1) * 5)), d3, d4]) (st1 := [.ref 209]) (M1 := mjTo Z4) rfl ?_
  refine pG_getR (ci := 1) (f := 0) (b := 210) rfl rfl rfl (by rfl) rfl ?_
  refine pG_many 3 (pc1 := 54) (L1 := [some (.ref 209), some (.ref x1), some (.int ((Z4.1 209 1) * 5)), d3, d4]) (st1 := [.int (((Z4.1 209 1) * 5) + 1), .ref 210]) (M1 := mjTo Z4) rfl ?_
  cases hq5 : f5_at 210 (((Z4.1 209 1) * 5) + 1) Z4 with
  | none => rw [hq5] at h; cases h
  | some v6 =>
    rw [hq5, mjBp_some] at h
    refine pG_call (k2 := 5) (As := [.ref 210, .int (((Z4.1 209 1) * 5) + 1)]) (rest := []) rfl (by decide) (f5_at_ok hq5) ?_
    rintro r9 M9 ⟨rfl, rfl⟩
    show pG 10 57 [some (.ref 209), some (.ref x1), some (.int ((Z4.1 209 1) * 5)), d3, d4] [.int v6] (mjTo Z4) _
    refine pG_many 2 (pc1 := 59) (L1 := [some (.ref 209), some (.ref x1), some (.int ((Z4.1 209 1) * 5)), some (.int v6), d4]) (st1 := [.ref 209]) (M1 := mjTo Z4) rfl ?_
    refine pG_getR (ci := 1) (f := 0) (b := 210) rfl rfl rfl (by rfl) rfl ?_
    refine pG_many 3 (pc1 := 65) (L1 := [some (.ref 209), some (.ref x1), some (.int ((Z4.1 209 1) * 5)), some (.int v6), d4]) (st1 := [.int (((Z4.1 209 1) * 5) + 2), .ref 210]) (M1 := mjTo Z4) rfl ?_
    cases hq8 : f5_at 210 (((Z4.1 209 1) * 5) + 2) Z4 with
    | none => rw [hq8] at h; cases h
    | some v9 =>
      rw [hq8, mjBp_some] at h
      refine pG_call (k2 := 5) (As := [.ref 210, .int (((Z4.1 209 1) * 5) + 2)]) (rest := []) rfl (by decide) (f5_at_ok hq8) ?_
      rintro r9 M9 ⟨rfl, rfl⟩
      show pG 10 68 [some (.ref 209), some (.ref x1), some (.int ((Z4.1 209 1) * 5)), some (.int v6), d4] [.int v9] (mjTo Z4) _
      refine pG_many 2 (pc1 := 71) (L1 := [some (.ref 209), some (.ref x1), some (.int ((Z4.1 209 1) * 5)), some (.int v6), some (.int v9)]) (st1 := [.ref 209]) (M1 := mjTo Z4) rfl ?_
      refine pG_getR (ci := 1) (f := 0) (b := 210) rfl rfl rfl (by rfl) rfl ?_
      refine pG_many 1 (pc1 := 75) (L1 := [some (.ref 209), some (.ref x1), some (.int ((Z4.1 209 1) * 5)), some (.int v6), some (.int v9)]) (st1 := [.int ((Z4.1 209 1) * 5), .ref 210]) (M1 := mjTo Z4) rfl ?_
      cases hq11 : f5_at 210 ((Z4.1 209 1) * 5) Z4 with
      | none => rw [hq11] at h; cases h
      | some v12 =>
        rw [hq11, mjBp_some] at h
        refine pG_call (k2 := 5) (As := [.ref 210, .int ((Z4.1 209 1) * 5)]) (rest := []) rfl (by decide) (f5_at_ok hq11) ?_
        rintro r9 M9 ⟨rfl, rfl⟩
        show pG 10 78 [some (.ref 209), some (.ref x1), some (.int ((Z4.1 209 1) * 5)), some (.int v6), some (.int v9)] [.int v12] (mjTo Z4) _
        by_cases hs14 : (v12).toInt < 0 ∨ 2 < (v12).toInt
        · rw [if_pos hs14] at h
          refine pG_tso (t := 145) rfl hs14 rfl ?_
          refine pG_many 2 (pc1 := 147) (L1 := [some (.ref 209), some (.ref x1), some (.int ((Z4.1 209 1) * 5)), some (.int v6), some (.int v9)]) (st1 := [.int v6, .ref x1]) (M1 := mjTo Z4) rfl ?_
          have hk15 : mjIs x1 251 2 = true := by
            by_cases q9 : mjIs x1 251 2 = true
            · exact q9
            · rw [if_neg q9] at h; cases h
          rw [if_pos hk15] at h
          cases hq16 : f8_runner x1 v6 Z4 with
          | none => rw [hq16] at h; cases h
          | some v17 =>
            rw [hq16, mjBp_some] at h
            refine pG_callV (k2 := 8) (As := [.ref x1, .int v6]) (rest := []) rfl rfl rfl rfl rfl (mjRcv_is hk15 (by decide)) (by decide) (f8_runner_ok hq16) ?_
            rintro r9 M9 ⟨rfl, rfl⟩
            show pG 10 150 [some (.ref 209), some (.ref x1), some (.int ((Z4.1 209 1) * 5)), some (.int v6), some (.int v9)] [.ref v17] (mjTo Z4) _
            refine pG_many 2 (pc1 := 153) (L1 := [some (.ref 209), some (.ref x1), some (.int ((Z4.1 209 1) * 5)), some (.int v6), some (.int v9)]) (st1 := [.ref 209, .int v9, .ref v17]) (M1 := mjTo Z4) rfl ?_
            refine pG_getR (ci := 1) (f := 0) (b := 210) rfl rfl rfl (by rfl) rfl ?_
            refine pG_many 3 (pc1 := 159) (L1 := [some (.ref 209), some (.ref x1), some (.int ((Z4.1 209 1) * 5)), some (.int v6), some (.int v9)]) (st1 := [.int (((Z4.1 209 1) * 5) + 3), .ref 210, .int v9, .ref v17]) (M1 := mjTo Z4) rfl ?_
            cases hq19 : f5_at 210 (((Z4.1 209 1) * 5) + 3) Z4 with
            | none => rw [hq19] at h; cases h
            | some v20 =>
              rw [hq19, mjBp_some] at h
              refine pG_call (k2 := 5) (As := [.ref 210, .int (((Z4.1 209 1) * 5) + 3)]) (rest := [.int v9, .ref v17]) rfl (by decide) (f5_at_ok hq19) ?_
              rintro r9 M9 ⟨rfl, rfl⟩
              show pG 10 162 [some (.ref 209), some (.ref x1), some (.int ((Z4.1 209 1) * 5)), some (.int v6), some (.int v9)] [.int v20, .int v9, .ref v17] (mjTo Z4) _
              refine pG_many 1 (pc1 := 163) (L1 := [some (.ref 209), some (.ref x1), some (.int ((Z4.1 209 1) * 5)), some (.int v6), some (.int v9)]) (st1 := [.ref 209, .int v20, .int v9, .ref v17]) (M1 := mjTo Z4) rfl ?_
              refine pG_getR (ci := 1) (f := 0) (b := 210) rfl rfl rfl (by rfl) rfl ?_
              refine pG_many 3 (pc1 := 169) (L1 := [some (.ref 209), some (.ref x1), some (.int ((Z4.1 209 1) * 5)), some (.int v6), some (.int v9)]) (st1 := [.int (((Z4.1 209 1) * 5) + 4), .ref 210, .int v20, .int v9, .ref v17]) (M1 := mjTo Z4) rfl ?_
              cases hq22 : f5_at 210 (((Z4.1 209 1) * 5) + 4) Z4 with
              | none => rw [hq22] at h; cases h
              | some v23 =>
                rw [hq22, mjBp_some] at h
                refine pG_call (k2 := 5) (As := [.ref 210, .int (((Z4.1 209 1) * 5) + 4)]) (rest := [.int v20, .int v9, .ref v17]) rfl (by decide) (f5_at_ok hq22) ?_
                rintro r9 M9 ⟨rfl, rfl⟩
                show pG 10 172 [some (.ref 209), some (.ref x1), some (.int ((Z4.1 209 1) * 5)), some (.int v6), some (.int v9)] [.int v23, .int v20, .int v9, .ref v17] (mjTo Z4) _
                have hk25 : mjIs v17 251 7 = true := by
                  by_cases q9 : mjIs v17 251 7 = true
                  · exact q9
                  · rw [if_neg q9] at h; cases h
                rw [if_pos hk25] at h
                cases hq26 : f9_setLeg v17 v9 v20 v23 Z4 with
                | none => rw [hq26] at h; cases h
                | some w =>
                  obtain ⟨v27, Z28⟩ := w
                  rw [hq26, mjBd_some] at h
                  refine pG_callV (k2 := 9) (As := [.ref v17, .int v9, .int v20, .int v23]) (rest := []) rfl rfl rfl rfl rfl (mjRcv_is hk25 (by decide)) (by decide) (f9_setLeg_ok hq26) ?_
                  rintro r9 M9 ⟨rfl, rfl⟩
                  show pG 10 175 [some (.ref 209), some (.ref x1), some (.int ((Z4.1 209 1) * 5)), some (.int v6), some (.int v9)] [] (mjTo Z28) _
                  simp only [Option.some.injEq, Prod.mk.injEq] at h
                  obtain ⟨-, rfl⟩ := h
                  exact pG_ret (r := none) rfl ⟨rfl, rfl⟩
        rw [if_neg hs14] at h
        by_cases hs29 : ((v12).toInt - 0).toNat = 0
        · rw [if_pos hs29] at h
          refine pG_tsi (t := 104) (j := 0) (o := 26) rfl hs14 hs29 rfl rfl ?_
          refine pG_many 2 (pc1 := 106) (L1 := [some (.ref 209), some (.ref x1), some (.int ((Z4.1 209 1) * 5)), some (.int v6), some (.int v9)]) (st1 := [.int v6, .ref x1]) (M1 := mjTo Z4) rfl ?_
          have hk30 : mjIs x1 251 2 = true := by
            by_cases q9 : mjIs x1 251 2 = true
            · exact q9
            · rw [if_neg q9] at h; cases h
          rw [if_pos hk30] at h
          cases hq31 : f6_deed x1 v6 Z4 with
          | none => rw [hq31] at h; cases h
          | some v32 =>
            rw [hq31, mjBp_some] at h
            refine pG_callV (k2 := 6) (As := [.ref x1, .int v6]) (rest := []) rfl rfl rfl rfl rfl (mjRcv_is hk30 (by decide)) (by decide) (f6_deed_ok hq31) ?_
            rintro r9 M9 ⟨rfl, rfl⟩
            show pG 10 109 [some (.ref 209), some (.ref x1), some (.int ((Z4.1 209 1) * 5)), some (.int v6), some (.int v9)] [.ref v32] (mjTo Z4) _
            refine pG_many 1 (pc1 := 111) (L1 := [some (.ref 209), some (.ref x1), some (.int ((Z4.1 209 1) * 5)), some (.int v6), some (.int v9)]) (st1 := [.int v9, .ref v32]) (M1 := mjTo Z4) rfl ?_
            have hk34 : mjIs v32 251 0 = true := by
              by_cases q9 : mjIs v32 251 0 = true
              · exact q9
              · rw [if_neg q9] at h; cases h
            rw [if_pos hk34] at h
            refine pG_putI (ci := 0) (f := 3) rfl rfl rfl rfl hk34 ?_
            rw [mjLet] at h
            generalize zSi Z4 v32 3 v9 = Z35 at h ⊢
            refine pG_many 1 (pc1 := 175) (L1 := [some (.ref 209), some (.ref x1), some (.int ((Z4.1 209 1) * 5)), some (.int v6), some (.int v9)]) (st1 := []) (M1 := mjTo Z35) rfl ?_
            simp only [Option.some.injEq, Prod.mk.injEq] at h
            obtain ⟨-, rfl⟩ := h
            exact pG_ret (r := none) rfl ⟨rfl, rfl⟩
        rw [if_neg hs29] at h
        by_cases hs36 : ((v12).toInt - 0).toNat = 1
        · rw [if_pos hs36] at h
          refine pG_tsi (t := 117) (j := 1) (o := 39) rfl hs14 hs36 rfl rfl ?_
          refine pG_many 2 (pc1 := 119) (L1 := [some (.ref 209), some (.ref x1), some (.int ((Z4.1 209 1) * 5)), some (.int v6), some (.int v9)]) (st1 := [.int v6, .ref x1]) (M1 := mjTo Z4) rfl ?_
          have hk37 : mjIs x1 251 2 = true := by
            by_cases q9 : mjIs x1 251 2 = true
            · exact q9
            · rw [if_neg q9] at h; cases h
          rw [if_pos hk37] at h
          cases hq38 : f6_deed x1 v6 Z4 with
          | none => rw [hq38] at h; cases h
          | some v39 =>
            rw [hq38, mjBp_some] at h
            refine pG_callV (k2 := 6) (As := [.ref x1, .int v6]) (rest := []) rfl rfl rfl rfl rfl (mjRcv_is hk37 (by decide)) (by decide) (f6_deed_ok hq38) ?_
            rintro r9 M9 ⟨rfl, rfl⟩
            show pG 10 122 [some (.ref 209), some (.ref x1), some (.int ((Z4.1 209 1) * 5)), some (.int v6), some (.int v9)] [.ref v39] (mjTo Z4) _
            refine pG_many 1 (pc1 := 124) (L1 := [some (.ref 209), some (.ref x1), some (.int ((Z4.1 209 1) * 5)), some (.int v6), some (.int v9)]) (st1 := [.int v9, .ref v39]) (M1 := mjTo Z4) rfl ?_
            have hk41 : mjIs v39 251 0 = true := by
              by_cases q9 : mjIs v39 251 0 = true
              · exact q9
              · rw [if_neg q9] at h; cases h
            rw [if_pos hk41] at h
            refine pG_putI (ci := 0) (f := 4) rfl rfl rfl rfl hk41 ?_
            rw [mjLet] at h
            generalize zSi Z4 v39 4 v9 = Z42 at h ⊢
            refine pG_many 1 (pc1 := 175) (L1 := [some (.ref 209), some (.ref x1), some (.int ((Z4.1 209 1) * 5)), some (.int v6), some (.int v9)]) (st1 := []) (M1 := mjTo Z42) rfl ?_
            simp only [Option.some.injEq, Prod.mk.injEq] at h
            obtain ⟨-, rfl⟩ := h
            exact pG_ret (r := none) rfl ⟨rfl, rfl⟩
        rw [if_neg hs36] at h
        by_cases hs43 : ((v12).toInt - 0).toNat = 2
        · rw [if_pos hs43] at h
          refine pG_tsi (t := 130) (j := 2) (o := 52) rfl hs14 hs43 rfl rfl ?_
          refine pG_many 2 (pc1 := 132) (L1 := [some (.ref 209), some (.ref x1), some (.int ((Z4.1 209 1) * 5)), some (.int v6), some (.int v9)]) (st1 := [.ref x1, .ref x1]) (M1 := mjTo Z4) rfl ?_
          have hk44 : mjIs x1 251 2 = true := by
            by_cases q9 : mjIs x1 251 2 = true
            · exact q9
            · rw [if_neg q9] at h; cases h
          rw [if_pos hk44] at h
          refine pG_getL (ci := 2) (f := 11) rfl rfl rfl hk44 ?_
          refine pG_many 4 (pc1 := 139) (L1 := [some (.ref 209), some (.ref x1), some (.int ((Z4.1 209 1) * 5)), some (.int v6), some (.int v9)]) (st1 := [.long ((Z4.2.1 x1 11) ^^^ (1 <<< (Int32.toInt64 v6 &&& 63))), .ref x1]) (M1 := mjTo Z4) rfl ?_
          refine pG_putL (ci := 2) (f := 11) rfl rfl rfl rfl hk44 ?_
          rw [mjLet] at h
          generalize zSl Z4 x1 11 ((Z4.2.1 x1 11) ^^^ (1 <<< (Int32.toInt64 v6 &&& 63))) = Z45 at h ⊢
          refine pG_many 1 (pc1 := 175) (L1 := [some (.ref 209), some (.ref x1), some (.int ((Z4.1 209 1) * 5)), some (.int v6), some (.int v9)]) (st1 := []) (M1 := mjTo Z45) rfl ?_
          simp only [Option.some.injEq, Prod.mk.injEq] at h
          obtain ⟨-, rfl⟩ := h
          exact pG_ret (r := none) rfl ⟨rfl, rfl⟩
        rw [if_neg hs43] at h
        cases h
def f10_takeBack (p0 : Nat) (Z : mjZt) : Option (Unit × mjZt) :=
  if mjCmp .ne (Z.1 209 2) 0 = true then
    if mjCmp .le (Z.1 209 1) 0 = true then
      f10_takeBack_j27 p0 9 Z
    else
      f10_takeBack_j27 p0 ((Z.1 209 1) - 1) Z
  else
    some ((), Z)
theorem f10_takeBack_ok {p0 : Nat} {Z : mjZt} {v9 : Unit} {Z9 : mjZt} (h : f10_takeBack p0 Z = some (v9, Z9)) : pG 10 0 (mjEnt [.ref 209, .ref p0] (mjML 10)) [] (mjTo Z) (fun r M1 => r = none ∧ M1 = mjTo Z9) := by
  unfold f10_takeBack at h
  show pG 10 0 [some (.ref 209), some (.ref p0), none, none, none] [] (mjTo Z) _
  refine pG_many 1 (pc1 := 1) (L1 := [some (.ref 209), some (.ref p0), none, none, none]) (st1 := [.ref 209]) (M1 := mjTo Z) rfl ?_
  refine pG_getI (ci := 1) (f := 2) rfl rfl (Or.inl rfl) (by rfl) ?_
  by_cases hc1 : mjCmp .ne (Z.1 209 2) 0 = true
  · rw [if_pos hc1] at h
    refine pG_ift (t := 8) rfl rfl hc1 ?_
    refine pG_many 2 (pc1 := 10) (L1 := [some (.ref 209), some (.ref p0), none, none, none]) (st1 := [.ref 209, .ref 209]) (M1 := mjTo Z) rfl ?_
    refine pG_getI (ci := 1) (f := 1) rfl rfl (Or.inl rfl) (by rfl) ?_
    by_cases hc2 : mjCmp .le (Z.1 209 1) 0 = true
    · rw [if_pos hc2] at h
      refine pG_ift (t := 25) rfl rfl hc2 ?_
      refine pG_many 1 (pc1 := 27) (L1 := [some (.ref 209), some (.ref p0), none, none, none]) (st1 := [.int 9, .ref 209]) (M1 := mjTo Z) rfl ?_
      exact f10_takeBack_j27_ok p0 9 none none none Z v9 Z9 h
    · rw [if_neg hc2] at h
      refine pG_iff (t := 25) rfl rfl hc2 ?_
      refine pG_many 1 (pc1 := 17) (L1 := [some (.ref 209), some (.ref p0), none, none, none]) (st1 := [.ref 209, .ref 209]) (M1 := mjTo Z) rfl ?_
      refine pG_getI (ci := 1) (f := 1) rfl rfl (Or.inl rfl) (by rfl) ?_
      refine pG_many 3 (pc1 := 27) (L1 := [some (.ref 209), some (.ref p0), none, none, none]) (st1 := [.int ((Z.1 209 1) - 1), .ref 209]) (M1 := mjTo Z) rfl ?_
      exact f10_takeBack_j27_ok p0 ((Z.1 209 1) - 1) none none none Z v9 Z9 h
  · rw [if_neg hc1] at h
    refine pG_iff (t := 8) rfl rfl hc1 ?_
    simp only [Option.some.injEq, Prod.mk.injEq] at h
    obtain ⟨-, rfl⟩ := h
    exact pG_ret (r := none) rfl ⟨rfl, rfl⟩
def f325_fill_h5 : Nat → Nat → Int32 → Int32 → Int32 → mjZt → Option (Unit × mjZt)
  | 0, _, _, _, _, _ => none
  | n + 1, x0, x1, x2, x3, Z =>
    if mjCmp .ge x2 x3 = true then
      some ((), Z)
    else
      if mjIs x0 251 13 = true then
      if mjIn x2 (mjLay x0).2 = true then
      mjLet (zSi Z x0 (mjIx x2) x1) fun Z5 =>
      f325_fill_h5 n x0 x1 (x2 + 1) x3 Z5
      else none
      else none
theorem f325_fill_h5_ok : ∀ (n : Nat) (x0 : Nat) (x1 : Int32) (x2 : Int32) (x3 : Int32) (Z : mjZt) (v9 : Unit) (Z9 : mjZt), f325_fill_h5 n x0 x1 x2 x3 Z = some (v9, Z9) → pG 325 5 [some (.ref x0), some (.int x1), some (.int x2), some (.int x3)] [] (mjTo Z) (fun r M1 => r = none ∧ M1 = mjTo Z9)
  | 0, x0, x1, x2, x3, Z, v9, Z9, h => by rw [f325_fill_h5] at h; cases h
  | n + 1, x0, x1, x2, x3, Z, v9, Z9, h => by
      rw [f325_fill_h5] at h
      refine pG_many 2 (pc1 := 7) (L1 := [some (.ref x0), some (.int x1), some (.int x2), some (.int x3)]) (st1 := [.int x3, .int x2]) (M1 := mjTo Z) rfl ?_
      by_cases hc2 : mjCmp .ge x2 x3 = true
      · rw [if_pos hc2] at h
        refine pG_cmt (t := 20) rfl rfl hc2 ?_
        simp only [Option.some.injEq, Prod.mk.injEq] at h
        obtain ⟨-, rfl⟩ := h
        exact pG_ret (r := none) rfl ⟨rfl, rfl⟩
      · rw [if_neg hc2] at h
        refine pG_cmf (t := 20) rfl rfl hc2 ?_
        refine pG_many 3 (pc1 := 13) (L1 := [some (.ref x0), some (.int x1), some (.int x2), some (.int x3)]) (st1 := [.int x1, .int x2, .ref x0]) (M1 := mjTo Z) rfl ?_
        have hk3 : mjIs x0 251 13 = true := by
          by_cases q9 : mjIs x0 251 13 = true
          · exact q9
          · rw [if_neg q9] at h; cases h
        rw [if_pos hk3] at h
        have hk4 : mjIn x2 (mjLay x0).2 = true := by
          by_cases q9 : mjIn x2 (mjLay x0).2 = true
          · exact q9
          · rw [if_neg q9] at h; cases h
        rw [if_pos hk4] at h
        refine pG_ias rfl hk3 hk4 (?_ : pG 325 14 [some (.ref x0), some (.int x1), some (.int x2), some (.int x3)] [] (mjTo (zSi Z x0 (mjIx x2) x1)) _)
        rw [mjLet] at h
        generalize zSi Z x0 (mjIx x2) x1 = Z5 at h ⊢
        refine pG_many 2 (pc1 := 5) (L1 := [some (.ref x0), some (.int x1), some (.int (x2 + 1)), some (.int x3)]) (st1 := []) (M1 := mjTo Z5) rfl ?_
        exact f325_fill_h5_ok n x0 x1 (x2 + 1) x3 Z5 v9 Z9 h
def f325_fill (p0 : Nat) (p1 : Int32) (Z : mjZt) : Option (Unit × mjZt) :=
  if mjIs p0 251 13 = true then
  f325_fill_h5 mjF p0 p1 0 (Int32.ofNat (mjLay p0).2) Z
  else none
theorem f325_fill_ok {p0 : Nat} {p1 : Int32} {Z : mjZt} {v9 : Unit} {Z9 : mjZt} (h : f325_fill p0 p1 Z = some (v9, Z9)) : pG 325 0 (mjEnt [.ref p0, .int p1] (mjML 325)) [] (mjTo Z) (fun r M1 => r = none ∧ M1 = mjTo Z9) := by
  unfold f325_fill at h
  show pG 325 0 [some (.ref p0), some (.int p1), none, none] [] (mjTo Z) _
  refine pG_many 3 (pc1 := 3) (L1 := [some (.ref p0), some (.int p1), some (.int 0), none]) (st1 := [.ref p0]) (M1 := mjTo Z) rfl ?_
  have hk1 : mjIs p0 251 13 = true := by
    by_cases q9 : mjIs p0 251 13 = true
    · exact q9
    · rw [if_neg q9] at h; cases h
  rw [if_pos hk1] at h
  refine pG_lenS (c := 13) rfl (by decide) (by decide) hk1 ?_
  refine pG_many 1 (pc1 := 5) (L1 := [some (.ref p0), some (.int p1), some (.int 0), some (.int (Int32.ofNat (mjLay p0).2))]) (st1 := []) (M1 := mjTo Z) rfl ?_
  exact f325_fill_h5_ok mjF p0 p1 0 (Int32.ofNat (mjLay p0).2) Z v9 Z9 h
def f14_clear (a0 : Nat) (Z : mjZt) : Option (Unit × mjZt) :=
  if mjIs a0 251 8 = true then
  mjLet (zSi Z a0 7 0) fun Z2 =>
  mjBd (f325_fill (a0 + 4) 0 Z2) fun _ Z5 =>
  mjBd (f325_fill (a0 + 5) 0 Z5) fun _ Z8 =>
  mjBd (f325_fill (a0 + 6) 0 Z8) fun _ Z11 =>
  some ((), Z11)
  else none
theorem f14_clear_ok {a0 : Nat} {Z : mjZt} {v9 : Unit} {Z9 : mjZt} (h : f14_clear a0 Z = some (v9, Z9)) : pG 14 0 (mjEnt [.ref a0] (mjML 14)) [] (mjTo Z) (fun r M1 => r = none ∧ M1 = mjTo Z9) := by
  unfold f14_clear at h
  show pG 14 0 [some (.ref a0)] [] (mjTo Z) _
  refine pG_many 2 (pc1 := 2) (L1 := [some (.ref a0)]) (st1 := [.int 0, .ref a0]) (M1 := mjTo Z) rfl ?_
  have hk1 : mjIs a0 251 8 = true := by
    by_cases q9 : mjIs a0 251 8 = true
    · exact q9
    · rw [if_neg q9] at h; cases h
  rw [if_pos hk1] at h
  refine pG_putI (ci := 8) (f := 7) rfl rfl rfl rfl hk1 ?_
  rw [mjLet] at h
  generalize zSi Z a0 7 0 = Z2 at h ⊢
  refine pG_many 1 (pc1 := 6) (L1 := [some (.ref a0)]) (st1 := [.ref a0]) (M1 := mjTo Z2) rfl ?_
  refine pG_getR (ci := 8) (f := 3) (b := a0 + 4) rfl rfl rfl hk1 (mjRc8_3 hk1) ?_
  refine pG_many 1 (pc1 := 10) (L1 := [some (.ref a0)]) (st1 := [.int 0, .ref (a0 + 4)]) (M1 := mjTo Z2) rfl ?_
  cases hq3 : f325_fill (a0 + 4) 0 Z2 with
  | none => rw [hq3] at h; cases h
  | some w =>
    obtain ⟨v4, Z5⟩ := w
    rw [hq3, mjBd_some] at h
    refine pG_call (k2 := 325) (As := [.ref (a0 + 4), .int 0]) (rest := []) rfl (by decide) (f325_fill_ok hq3) ?_
    rintro r9 M9 ⟨rfl, rfl⟩
    show pG 14 13 [some (.ref a0)] [] (mjTo Z5) _
    refine pG_many 1 (pc1 := 14) (L1 := [some (.ref a0)]) (st1 := [.ref a0]) (M1 := mjTo Z5) rfl ?_
    refine pG_getR (ci := 8) (f := 4) (b := a0 + 5) rfl rfl rfl hk1 (mjRc8_4 hk1) ?_
    refine pG_many 1 (pc1 := 18) (L1 := [some (.ref a0)]) (st1 := [.int 0, .ref (a0 + 5)]) (M1 := mjTo Z5) rfl ?_
    cases hq6 : f325_fill (a0 + 5) 0 Z5 with
    | none => rw [hq6] at h; cases h
    | some w =>
      obtain ⟨v7, Z8⟩ := w
      rw [hq6, mjBd_some] at h
      refine pG_call (k2 := 325) (As := [.ref (a0 + 5), .int 0]) (rest := []) rfl (by decide) (f325_fill_ok hq6) ?_
      rintro r9 M9 ⟨rfl, rfl⟩
      show pG 14 21 [some (.ref a0)] [] (mjTo Z8) _
      refine pG_many 1 (pc1 := 22) (L1 := [some (.ref a0)]) (st1 := [.ref a0]) (M1 := mjTo Z8) rfl ?_
      refine pG_getR (ci := 8) (f := 5) (b := a0 + 6) rfl rfl rfl hk1 (mjRc8_5 hk1) ?_
      refine pG_many 1 (pc1 := 26) (L1 := [some (.ref a0)]) (st1 := [.int 0, .ref (a0 + 6)]) (M1 := mjTo Z8) rfl ?_
      cases hq9 : f325_fill (a0 + 6) 0 Z8 with
      | none => rw [hq9] at h; cases h
      | some w =>
        obtain ⟨v10, Z11⟩ := w
        rw [hq9, mjBd_some] at h
        refine pG_call (k2 := 325) (As := [.ref (a0 + 6), .int 0]) (rest := []) rfl (by decide) (f325_fill_ok hq9) ?_
        rintro r9 M9 ⟨rfl, rfl⟩
        show pG 14 29 [some (.ref a0)] [] (mjTo Z11) _
        simp only [Option.some.injEq, Prod.mk.injEq] at h
        obtain ⟨-, rfl⟩ := h
        exact pG_ret (r := none) rfl ⟨rfl, rfl⟩
def f15_clear (a0 : Nat) (Z : mjZt) : Option (Unit × mjZt) :=
  if mjIs a0 251 2 = true then
  mjLet (zSi Z a0 0 0) fun Z2 =>
  mjLet (zSi Z2 a0 1 0) fun Z3 =>
  mjLet (zSi Z3 a0 2 0) fun Z4 =>
  mjLet (zSi Z4 a0 3 0) fun Z5 =>
  mjLet (zSi Z5 a0 4 0) fun Z6 =>
  mjLet (zSi Z6 a0 5 0) fun Z7 =>
  mjLet (zSi Z7 a0 6 0) fun Z8 =>
  mjLet (zSi Z8 a0 7 0) fun Z9 =>
  mjLet (zSi Z9 a0 8 0) fun Z10 =>
  mjLet (zSi Z10 a0 9 2) fun Z11 =>
  mjLet (zSi Z11 a0 10 5) fun Z12 =>
  mjLet (zSl Z12 a0 11 0) fun Z13 =>
  if mjIs (a0 + 1) 251 8 = true then
  mjBd (f14_clear (a0 + 1) Z13) fun _ Z17 =>
  some ((), Z17)
  else none
  else none
theorem f15_clear_ok {a0 : Nat} {Z : mjZt} {v9 : Unit} {Z9 : mjZt} (h : f15_clear a0 Z = some (v9, Z9)) : pG 15 0 (mjEnt [.ref a0] (mjML 15)) [] (mjTo Z) (fun r M1 => r = none ∧ M1 = mjTo Z9) := by
  unfold f15_clear at h
  show pG 15 0 [some (.ref a0)] [] (mjTo Z) _
  refine pG_many 2 (pc1 := 2) (L1 := [some (.ref a0)]) (st1 := [.int 0, .ref a0]) (M1 := mjTo Z) rfl ?_
  have hk1 : mjIs a0 251 2 = true := by
    by_cases q9 : mjIs a0 251 2 = true
    · exact q9
    · rw [if_neg q9] at h; cases h
  rw [if_pos hk1] at h
  refine pG_putI (ci := 2) (f := 0) rfl rfl rfl rfl hk1 ?_
  rw [mjLet] at h
  generalize zSi Z a0 0 0 = Z2 at h ⊢
  refine pG_many 2 (pc1 := 7) (L1 := [some (.ref a0)]) (st1 := [.int 0, .ref a0]) (M1 := mjTo Z2) rfl ?_
  refine pG_putI (ci := 2) (f := 1) rfl rfl rfl rfl hk1 ?_
  rw [mjLet] at h
  generalize zSi Z2 a0 1 0 = Z3 at h ⊢
  refine pG_many 2 (pc1 := 12) (L1 := [some (.ref a0)]) (st1 := [.int 0, .ref a0]) (M1 := mjTo Z3) rfl ?_
  refine pG_putI (ci := 2) (f := 2) rfl rfl rfl rfl hk1 ?_
  rw [mjLet] at h
  generalize zSi Z3 a0 2 0 = Z4 at h ⊢
  refine pG_many 2 (pc1 := 17) (L1 := [some (.ref a0)]) (st1 := [.int 0, .ref a0]) (M1 := mjTo Z4) rfl ?_
  refine pG_putI (ci := 2) (f := 3) rfl rfl rfl rfl hk1 ?_
  rw [mjLet] at h
  generalize zSi Z4 a0 3 0 = Z5 at h ⊢
  refine pG_many 2 (pc1 := 22) (L1 := [some (.ref a0)]) (st1 := [.int 0, .ref a0]) (M1 := mjTo Z5) rfl ?_
  refine pG_putI (ci := 2) (f := 4) rfl rfl rfl rfl hk1 ?_
  rw [mjLet] at h
  generalize zSi Z5 a0 4 0 = Z6 at h ⊢
  refine pG_many 2 (pc1 := 27) (L1 := [some (.ref a0)]) (st1 := [.int 0, .ref a0]) (M1 := mjTo Z6) rfl ?_
  refine pG_putI (ci := 2) (f := 5) rfl rfl rfl rfl hk1 ?_
  rw [mjLet] at h
  generalize zSi Z6 a0 5 0 = Z7 at h ⊢
  refine pG_many 2 (pc1 := 32) (L1 := [some (.ref a0)]) (st1 := [.int 0, .ref a0]) (M1 := mjTo Z7) rfl ?_
  refine pG_putI (ci := 2) (f := 6) rfl rfl rfl rfl hk1 ?_
  rw [mjLet] at h
  generalize zSi Z7 a0 6 0 = Z8 at h ⊢
  refine pG_many 2 (pc1 := 37) (L1 := [some (.ref a0)]) (st1 := [.int 0, .ref a0]) (M1 := mjTo Z8) rfl ?_
  refine pG_putI (ci := 2) (f := 7) rfl rfl rfl rfl hk1 ?_
  rw [mjLet] at h
  generalize zSi Z8 a0 7 0 = Z9 at h ⊢
  refine pG_many 2 (pc1 := 42) (L1 := [some (.ref a0)]) (st1 := [.int 0, .ref a0]) (M1 := mjTo Z9) rfl ?_
  refine pG_putI (ci := 2) (f := 8) rfl rfl rfl rfl hk1 ?_
  rw [mjLet] at h
  generalize zSi Z9 a0 8 0 = Z10 at h ⊢
  refine pG_many 2 (pc1 := 47) (L1 := [some (.ref a0)]) (st1 := [.int 2, .ref a0]) (M1 := mjTo Z10) rfl ?_
  refine pG_putI (ci := 2) (f := 9) rfl rfl rfl rfl hk1 ?_
  rw [mjLet] at h
  generalize zSi Z10 a0 9 2 = Z11 at h ⊢
  refine pG_many 2 (pc1 := 52) (L1 := [some (.ref a0)]) (st1 := [.int 5, .ref a0]) (M1 := mjTo Z11) rfl ?_
  refine pG_putI (ci := 2) (f := 10) rfl rfl rfl rfl hk1 ?_
  rw [mjLet] at h
  generalize zSi Z11 a0 10 5 = Z12 at h ⊢
  refine pG_many 2 (pc1 := 57) (L1 := [some (.ref a0)]) (st1 := [.long 0, .ref a0]) (M1 := mjTo Z12) rfl ?_
  refine pG_putL (ci := 2) (f := 11) rfl rfl rfl rfl hk1 ?_
  rw [mjLet] at h
  generalize zSl Z12 a0 11 0 = Z13 at h ⊢
  refine pG_many 1 (pc1 := 61) (L1 := [some (.ref a0)]) (st1 := [.ref a0]) (M1 := mjTo Z13) rfl ?_
  refine pG_getR (ci := 2) (f := 12) (b := a0 + 1) rfl rfl rfl hk1 (mjRc2_12 hk1) ?_
  have hk14 : mjIs (a0 + 1) 251 8 = true := by
    by_cases q9 : mjIs (a0 + 1) 251 8 = true
    · exact q9
    · rw [if_neg q9] at h; cases h
  rw [if_pos hk14] at h
  cases hq15 : f14_clear (a0 + 1) Z13 with
  | none => rw [hq15] at h; cases h
  | some w =>
    obtain ⟨v16, Z17⟩ := w
    rw [hq15, mjBd_some] at h
    refine pG_callV (k2 := 14) (As := [.ref (a0 + 1)]) (rest := []) rfl rfl rfl rfl rfl (mjRcv_is hk14 (by decide)) (by decide) (f14_clear_ok hq15) ?_
    rintro r9 M9 ⟨rfl, rfl⟩
    show pG 15 67 [some (.ref a0)] [] (mjTo Z17) _
    simp only [Option.some.injEq, Prod.mk.injEq] at h
    obtain ⟨-, rfl⟩ := h
    exact pG_ret (r := none) rfl ⟨rfl, rfl⟩
def f16_hasRule (a0 : Nat) (p0 : Int32) (Z : mjZt) : Option Int32 :=
  if mjCmp .lt p0 0 = true then
    some 0
  else
    if mjIs a0 251 2 = true then
    if mjCmp .ge p0 (Z.1 a0 8) = true then
      some 0
    else
      if mjCmp .ge p0 8 = true then
        some 0
      else
        some 1
    else none
theorem f16_hasRule_ok {a0 : Nat} {p0 : Int32} {Z : mjZt} {v9 : Int32} (h : f16_hasRule a0 p0 Z = some v9) : pG 16 0 (mjEnt [.ref a0, .int p0] (mjML 16)) [] (mjTo Z) (fun r M1 => r = some (.int v9) ∧ M1 = mjTo Z) := by
  unfold f16_hasRule at h
  show pG 16 0 [some (.ref a0), some (.int p0)] [] (mjTo Z) _
  refine pG_many 1 (pc1 := 1) (L1 := [some (.ref a0), some (.int p0)]) (st1 := [.int p0]) (M1 := mjTo Z) rfl ?_
  by_cases hc1 : mjCmp .lt p0 0 = true
  · rw [if_pos hc1] at h
    refine pG_ift (t := 22) rfl rfl hc1 ?_
    refine pG_many 1 (pc1 := 23) (L1 := [some (.ref a0), some (.int p0)]) (st1 := [.int 0]) (M1 := mjTo Z) rfl ?_
    simp only [Option.some.injEq] at h
    subst h
    exact pG_ret (r := some (.int 0)) rfl ⟨rfl, rfl⟩
  · rw [if_neg hc1] at h
    refine pG_iff (t := 22) rfl rfl hc1 ?_
    refine pG_many 2 (pc1 := 6) (L1 := [some (.ref a0), some (.int p0)]) (st1 := [.ref a0, .int p0]) (M1 := mjTo Z) rfl ?_
    have hk2 : mjIs a0 251 2 = true := by
      by_cases q9 : mjIs a0 251 2 = true
      · exact q9
      · rw [if_neg q9] at h; cases h
    rw [if_pos hk2] at h
    refine pG_getI (ci := 2) (f := 8) rfl rfl (Or.inl rfl) hk2 ?_
    by_cases hc3 : mjCmp .ge p0 (Z.1 a0 8) = true
    · rw [if_pos hc3] at h
      refine pG_cmt (t := 22) rfl rfl hc3 ?_
      refine pG_many 1 (pc1 := 23) (L1 := [some (.ref a0), some (.int p0)]) (st1 := [.int 0]) (M1 := mjTo Z) rfl ?_
      simp only [Option.some.injEq] at h
      subst h
      exact pG_ret (r := some (.int 0)) rfl ⟨rfl, rfl⟩
    · rw [if_neg hc3] at h
      refine pG_cmf (t := 22) rfl rfl hc3 ?_
      refine pG_many 2 (pc1 := 15) (L1 := [some (.ref a0), some (.int p0)]) (st1 := [.int 8, .int p0]) (M1 := mjTo Z) rfl ?_
      by_cases hc4 : mjCmp .ge p0 8 = true
      · rw [if_pos hc4] at h
        refine pG_cmt (t := 22) rfl rfl hc4 ?_
        refine pG_many 1 (pc1 := 23) (L1 := [some (.ref a0), some (.int p0)]) (st1 := [.int 0]) (M1 := mjTo Z) rfl ?_
        simp only [Option.some.injEq] at h
        subst h
        exact pG_ret (r := some (.int 0)) rfl ⟨rfl, rfl⟩
      · rw [if_neg hc4] at h
        refine pG_cmf (t := 22) rfl rfl hc4 ?_
        refine pG_many 2 (pc1 := 23) (L1 := [some (.ref a0), some (.int p0)]) (st1 := [.int 1]) (M1 := mjTo Z) rfl ?_
        simp only [Option.some.injEq] at h
        subst h
        exact pG_ret (r := some (.int 1)) rfl ⟨rfl, rfl⟩
def f17_hasAct (a0 : Nat) (p0 : Int32) (Z : mjZt) : Option Int32 :=
  if mjCmp .lt p0 0 = true then
    some 0
  else
    if mjIs a0 251 2 = true then
    if mjCmp .ge p0 (Z.1 a0 7) = true then
      some 0
    else
      if mjCmp .ge p0 42 = true then
        some 0
      else
        some 1
    else none
theorem f17_hasAct_ok {a0 : Nat} {p0 : Int32} {Z : mjZt} {v9 : Int32} (h : f17_hasAct a0 p0 Z = some v9) : pG 17 0 (mjEnt [.ref a0, .int p0] (mjML 17)) [] (mjTo Z) (fun r M1 => r = some (.int v9) ∧ M1 = mjTo Z) := by
  unfold f17_hasAct at h
  show pG 17 0 [some (.ref a0), some (.int p0)] [] (mjTo Z) _
  refine pG_many 1 (pc1 := 1) (L1 := [some (.ref a0), some (.int p0)]) (st1 := [.int p0]) (M1 := mjTo Z) rfl ?_
  by_cases hc1 : mjCmp .lt p0 0 = true
  · rw [if_pos hc1] at h
    refine pG_ift (t := 22) rfl rfl hc1 ?_
    refine pG_many 1 (pc1 := 23) (L1 := [some (.ref a0), some (.int p0)]) (st1 := [.int 0]) (M1 := mjTo Z) rfl ?_
    simp only [Option.some.injEq] at h
    subst h
    exact pG_ret (r := some (.int 0)) rfl ⟨rfl, rfl⟩
  · rw [if_neg hc1] at h
    refine pG_iff (t := 22) rfl rfl hc1 ?_
    refine pG_many 2 (pc1 := 6) (L1 := [some (.ref a0), some (.int p0)]) (st1 := [.ref a0, .int p0]) (M1 := mjTo Z) rfl ?_
    have hk2 : mjIs a0 251 2 = true := by
      by_cases q9 : mjIs a0 251 2 = true
      · exact q9
      · rw [if_neg q9] at h; cases h
    rw [if_pos hk2] at h
    refine pG_getI (ci := 2) (f := 7) rfl rfl (Or.inl rfl) hk2 ?_
    by_cases hc3 : mjCmp .ge p0 (Z.1 a0 7) = true
    · rw [if_pos hc3] at h
      refine pG_cmt (t := 22) rfl rfl hc3 ?_
      refine pG_many 1 (pc1 := 23) (L1 := [some (.ref a0), some (.int p0)]) (st1 := [.int 0]) (M1 := mjTo Z) rfl ?_
      simp only [Option.some.injEq] at h
      subst h
      exact pG_ret (r := some (.int 0)) rfl ⟨rfl, rfl⟩
    · rw [if_neg hc3] at h
      refine pG_cmf (t := 22) rfl rfl hc3 ?_
      refine pG_many 2 (pc1 := 15) (L1 := [some (.ref a0), some (.int p0)]) (st1 := [.int 42, .int p0]) (M1 := mjTo Z) rfl ?_
      by_cases hc4 : mjCmp .ge p0 42 = true
      · rw [if_pos hc4] at h
        refine pG_cmt (t := 22) rfl rfl hc4 ?_
        refine pG_many 1 (pc1 := 23) (L1 := [some (.ref a0), some (.int p0)]) (st1 := [.int 0]) (M1 := mjTo Z) rfl ?_
        simp only [Option.some.injEq] at h
        subst h
        exact pG_ret (r := some (.int 0)) rfl ⟨rfl, rfl⟩
      · rw [if_neg hc4] at h
        refine pG_cmf (t := 22) rfl rfl hc4 ?_
        refine pG_many 2 (pc1 := 23) (L1 := [some (.ref a0), some (.int p0)]) (st1 := [.int 1]) (M1 := mjTo Z) rfl ?_
        simp only [Option.some.injEq] at h
        subst h
        exact pG_ret (r := some (.int 1)) rfl ⟨rfl, rfl⟩
def f18_wasTold (a0 : Nat) (p0 : Int32) (Z : mjZt) : Option Int32 :=
  if mjCmp .lt p0 0 = true then
    some 0
  else
    if mjIs a0 251 2 = true then
    if mjCmp .ge p0 (Z.1 a0 6) = true then
      some 0
    else
      if mjCmp .ge p0 42 = true then
        some 0
      else
        some 1
    else none
theorem f18_wasTold_ok {a0 : Nat} {p0 : Int32} {Z : mjZt} {v9 : Int32} (h : f18_wasTold a0 p0 Z = some v9) : pG 18 0 (mjEnt [.ref a0, .int p0] (mjML 18)) [] (mjTo Z) (fun r M1 => r = some (.int v9) ∧ M1 = mjTo Z) := by
  unfold f18_wasTold at h
  show pG 18 0 [some (.ref a0), some (.int p0)] [] (mjTo Z) _
  refine pG_many 1 (pc1 := 1) (L1 := [some (.ref a0), some (.int p0)]) (st1 := [.int p0]) (M1 := mjTo Z) rfl ?_
  by_cases hc1 : mjCmp .lt p0 0 = true
  · rw [if_pos hc1] at h
    refine pG_ift (t := 22) rfl rfl hc1 ?_
    refine pG_many 1 (pc1 := 23) (L1 := [some (.ref a0), some (.int p0)]) (st1 := [.int 0]) (M1 := mjTo Z) rfl ?_
    simp only [Option.some.injEq] at h
    subst h
    exact pG_ret (r := some (.int 0)) rfl ⟨rfl, rfl⟩
  · rw [if_neg hc1] at h
    refine pG_iff (t := 22) rfl rfl hc1 ?_
    refine pG_many 2 (pc1 := 6) (L1 := [some (.ref a0), some (.int p0)]) (st1 := [.ref a0, .int p0]) (M1 := mjTo Z) rfl ?_
    have hk2 : mjIs a0 251 2 = true := by
      by_cases q9 : mjIs a0 251 2 = true
      · exact q9
      · rw [if_neg q9] at h; cases h
    rw [if_pos hk2] at h
    refine pG_getI (ci := 2) (f := 6) rfl rfl (Or.inl rfl) hk2 ?_
    by_cases hc3 : mjCmp .ge p0 (Z.1 a0 6) = true
    · rw [if_pos hc3] at h
      refine pG_cmt (t := 22) rfl rfl hc3 ?_
      refine pG_many 1 (pc1 := 23) (L1 := [some (.ref a0), some (.int p0)]) (st1 := [.int 0]) (M1 := mjTo Z) rfl ?_
      simp only [Option.some.injEq] at h
      subst h
      exact pG_ret (r := some (.int 0)) rfl ⟨rfl, rfl⟩
    · rw [if_neg hc3] at h
      refine pG_cmf (t := 22) rfl rfl hc3 ?_
      refine pG_many 2 (pc1 := 15) (L1 := [some (.ref a0), some (.int p0)]) (st1 := [.int 42, .int p0]) (M1 := mjTo Z) rfl ?_
      by_cases hc4 : mjCmp .ge p0 42 = true
      · rw [if_pos hc4] at h
        refine pG_cmt (t := 22) rfl rfl hc4 ?_
        refine pG_many 1 (pc1 := 23) (L1 := [some (.ref a0), some (.int p0)]) (st1 := [.int 0]) (M1 := mjTo Z) rfl ?_
        simp only [Option.some.injEq] at h
        subst h
        exact pG_ret (r := some (.int 0)) rfl ⟨rfl, rfl⟩
      · rw [if_neg hc4] at h
        refine pG_cmf (t := 22) rfl rfl hc4 ?_
        refine pG_many 2 (pc1 := 23) (L1 := [some (.ref a0), some (.int p0)]) (st1 := [.int 1]) (M1 := mjTo Z) rfl ?_
        simp only [Option.some.injEq] at h
        subst h
        exact pG_ret (r := some (.int 1)) rfl ⟨rfl, rfl⟩
def f19_hasLeg (a0 : Nat) (p0 : Int32) (p1 : Int32) (Z : mjZt) : Option Int32 :=
  if mjIs a0 251 2 = true then
  mjBp (f7_hasTeam a0 p0 Z) fun v3 =>
  if mjCmp .eq v3 0 = true then
    some 0
  else
    if mjCmp .lt p1 1 = true then
      some 0
    else
      mjBp (f8_runner a0 p0 Z) fun v8 =>
      if mjIs v8 251 7 = true then
      if mjCmp .gt p1 (Z.1 v8 6) = true then
        some 0
      else
        some 1
      else none
  else none
theorem f19_hasLeg_ok {a0 : Nat} {p0 : Int32} {p1 : Int32} {Z : mjZt} {v9 : Int32} (h : f19_hasLeg a0 p0 p1 Z = some v9) : pG 19 0 (mjEnt [.ref a0, .int p0, .int p1] (mjML 19)) [] (mjTo Z) (fun r M1 => r = some (.int v9) ∧ M1 = mjTo Z) := by
  unfold f19_hasLeg at h
  show pG 19 0 [some (.ref a0), some (.int p0), some (.int p1)] [] (mjTo Z) _
  refine pG_many 2 (pc1 := 2) (L1 := [some (.ref a0), some (.int p0), some (.int p1)]) (st1 := [.int p0, .ref a0]) (M1 := mjTo Z) rfl ?_
  have hk1 : mjIs a0 251 2 = true := by
    by_cases q9 : mjIs a0 251 2 = true
    · exact q9
    · rw [if_neg q9] at h; cases h
  rw [if_pos hk1] at h
  cases hq2 : f7_hasTeam a0 p0 Z with
  | none => rw [hq2] at h; cases h
  | some v3 =>
    rw [hq2, mjBp_some] at h
    refine pG_callV (k2 := 7) (As := [.ref a0, .int p0]) (rest := []) rfl rfl rfl rfl rfl (mjRcv_is hk1 (by decide)) (by decide) (f7_hasTeam_ok hq2) ?_
    rintro r9 M9 ⟨rfl, rfl⟩
    show pG 19 5 [some (.ref a0), some (.int p0), some (.int p1)] [.int v3] (mjTo Z) _
    by_cases hc5 : mjCmp .eq v3 0 = true
    · rw [if_pos hc5] at h
      refine pG_ift (t := 29) rfl rfl hc5 ?_
      refine pG_many 1 (pc1 := 30) (L1 := [some (.ref a0), some (.int p0), some (.int p1)]) (st1 := [.int 0]) (M1 := mjTo Z) rfl ?_
      simp only [Option.some.injEq] at h
      subst h
      exact pG_ret (r := some (.int 0)) rfl ⟨rfl, rfl⟩
    · rw [if_neg hc5] at h
      refine pG_iff (t := 29) rfl rfl hc5 ?_
      refine pG_many 2 (pc1 := 10) (L1 := [some (.ref a0), some (.int p0), some (.int p1)]) (st1 := [.int 1, .int p1]) (M1 := mjTo Z) rfl ?_
      by_cases hc6 : mjCmp .lt p1 1 = true
      · rw [if_pos hc6] at h
        refine pG_cmt (t := 29) rfl rfl hc6 ?_
        refine pG_many 1 (pc1 := 30) (L1 := [some (.ref a0), some (.int p0), some (.int p1)]) (st1 := [.int 0]) (M1 := mjTo Z) rfl ?_
        simp only [Option.some.injEq] at h
        subst h
        exact pG_ret (r := some (.int 0)) rfl ⟨rfl, rfl⟩
      · rw [if_neg hc6] at h
        refine pG_cmf (t := 29) rfl rfl hc6 ?_
        refine pG_many 3 (pc1 := 16) (L1 := [some (.ref a0), some (.int p0), some (.int p1)]) (st1 := [.int p0, .ref a0, .int p1]) (M1 := mjTo Z) rfl ?_
        cases hq7 : f8_runner a0 p0 Z with
        | none => rw [hq7] at h; cases h
        | some v8 =>
          rw [hq7, mjBp_some] at h
          refine pG_callV (k2 := 8) (As := [.ref a0, .int p0]) (rest := [.int p1]) rfl rfl rfl rfl rfl (mjRcv_is hk1 (by decide)) (by decide) (f8_runner_ok hq7) ?_
          rintro r9 M9 ⟨rfl, rfl⟩
          show pG 19 19 [some (.ref a0), some (.int p0), some (.int p1)] [.ref v8, .int p1] (mjTo Z) _
          have hk10 : mjIs v8 251 7 = true := by
            by_cases q9 : mjIs v8 251 7 = true
            · exact q9
            · rw [if_neg q9] at h; cases h
          rw [if_pos hk10] at h
          refine pG_getI (ci := 7) (f := 6) rfl rfl (Or.inl rfl) hk10 ?_
          by_cases hc11 : mjCmp .gt p1 (Z.1 v8 6) = true
          · rw [if_pos hc11] at h
            refine pG_cmt (t := 29) rfl rfl hc11 ?_
            refine pG_many 1 (pc1 := 30) (L1 := [some (.ref a0), some (.int p0), some (.int p1)]) (st1 := [.int 0]) (M1 := mjTo Z) rfl ?_
            simp only [Option.some.injEq] at h
            subst h
            exact pG_ret (r := some (.int 0)) rfl ⟨rfl, rfl⟩
          · rw [if_neg hc11] at h
            refine pG_cmf (t := 29) rfl rfl hc11 ?_
            refine pG_many 2 (pc1 := 30) (L1 := [some (.ref a0), some (.int p0), some (.int p1)]) (st1 := [.int 1]) (M1 := mjTo Z) rfl ?_
            simp only [Option.some.injEq] at h
            subst h
            exact pG_ret (r := some (.int 1)) rfl ⟨rfl, rfl⟩
def f20_kindOfRule (a0 : Nat) (p0 : Int32) (Z : mjZt) : Option Int32 :=
  if mjIs a0 251 2 = true then
  mjBp (f5_at (a0 + 11) p0 Z) fun v3 =>
  some v3
  else none
theorem f20_kindOfRule_ok {a0 : Nat} {p0 : Int32} {Z : mjZt} {v9 : Int32} (h : f20_kindOfRule a0 p0 Z = some v9) : pG 20 0 (mjEnt [.ref a0, .int p0] (mjML 20)) [] (mjTo Z) (fun r M1 => r = some (.int v9) ∧ M1 = mjTo Z) := by
  unfold f20_kindOfRule at h
  show pG 20 0 [some (.ref a0), some (.int p0)] [] (mjTo Z) _
  refine pG_many 1 (pc1 := 1) (L1 := [some (.ref a0), some (.int p0)]) (st1 := [.ref a0]) (M1 := mjTo Z) rfl ?_
  have hk1 : mjIs a0 251 2 = true := by
    by_cases q9 : mjIs a0 251 2 = true
    · exact q9
    · rw [if_neg q9] at h; cases h
  rw [if_pos hk1] at h
  refine pG_getR (ci := 2) (f := 16) (b := a0 + 11) rfl rfl rfl hk1 (mjRc2_16 hk1) ?_
  refine pG_many 1 (pc1 := 5) (L1 := [some (.ref a0), some (.int p0)]) (st1 := [.int p0, .ref (a0 + 11)]) (M1 := mjTo Z) rfl ?_
  cases hq2 : f5_at (a0 + 11) p0 Z with
  | none => rw [hq2] at h; cases h
  | some v3 =>
    rw [hq2, mjBp_some] at h
    refine pG_call (k2 := 5) (As := [.ref (a0 + 11), .int p0]) (rest := []) rfl (by decide) (f5_at_ok hq2) ?_
    rintro r9 M9 ⟨rfl, rfl⟩
    show pG 20 8 [some (.ref a0), some (.int p0)] [.int v3] (mjTo Z) _
    simp only [Option.some.injEq] at h
    subst h
    exact pG_ret (r := some (.int v3)) rfl ⟨rfl, rfl⟩
def f21_longAt (p0 : Nat) (p1 : Int32) (Z : mjZt) : Option Int64 :=
  if mjCmp .lt p1 0 = true then
    some 0
  else
    if mjIs p0 251 14 = true then
    if mjCmp .ge p1 (Int32.ofNat (mjLay p0).2) = true then
      some 0
    else
      if mjIn p1 (mjLay p0).2 = true then
      some (Z.2.1 p0 (mjIx p1))
      else none
    else none
theorem f21_longAt_ok {p0 : Nat} {p1 : Int32} {Z : mjZt} {v9 : Int64} (h : f21_longAt p0 p1 Z = some v9) : pG 21 0 (mjEnt [.ref p0, .int p1] (mjML 21)) [] (mjTo Z) (fun r M1 => r = some (.long v9) ∧ M1 = mjTo Z) := by
  unfold f21_longAt at h
  show pG 21 0 [some (.ref p0), some (.int p1)] [] (mjTo Z) _
  refine pG_many 1 (pc1 := 1) (L1 := [some (.ref p0), some (.int p1)]) (st1 := [.int p1]) (M1 := mjTo Z) rfl ?_
  by_cases hc1 : mjCmp .lt p1 0 = true
  · rw [if_pos hc1] at h
    refine pG_ift (t := 16) rfl rfl hc1 ?_
    refine pG_many 1 (pc1 := 17) (L1 := [some (.ref p0), some (.int p1)]) (st1 := [.long 0]) (M1 := mjTo Z) rfl ?_
    simp only [Option.some.injEq] at h
    subst h
    exact pG_ret (r := some (.long 0)) rfl ⟨rfl, rfl⟩
  · rw [if_neg hc1] at h
    refine pG_iff (t := 16) rfl rfl hc1 ?_
    refine pG_many 2 (pc1 := 6) (L1 := [some (.ref p0), some (.int p1)]) (st1 := [.ref p0, .int p1]) (M1 := mjTo Z) rfl ?_
    have hk2 : mjIs p0 251 14 = true := by
      by_cases q9 : mjIs p0 251 14 = true
      · exact q9
      · rw [if_neg q9] at h; cases h
    rw [if_pos hk2] at h
    refine pG_lenS (c := 14) rfl (by decide) (by decide) hk2 ?_
    by_cases hc3 : mjCmp .ge p1 (Int32.ofNat (mjLay p0).2) = true
    · rw [if_pos hc3] at h
      refine pG_cmt (t := 16) rfl rfl hc3 ?_
      refine pG_many 1 (pc1 := 17) (L1 := [some (.ref p0), some (.int p1)]) (st1 := [.long 0]) (M1 := mjTo Z) rfl ?_
      simp only [Option.some.injEq] at h
      subst h
      exact pG_ret (r := some (.long 0)) rfl ⟨rfl, rfl⟩
    · rw [if_neg hc3] at h
      refine pG_cmf (t := 16) rfl rfl hc3 ?_
      refine pG_many 2 (pc1 := 12) (L1 := [some (.ref p0), some (.int p1)]) (st1 := [.int p1, .ref p0]) (M1 := mjTo Z) rfl ?_
      have hk4 : mjIn p1 (mjLay p0).2 = true := by
        by_cases q9 : mjIn p1 (mjLay p0).2 = true
        · exact q9
        · rw [if_neg q9] at h; cases h
      rw [if_pos hk4] at h
      refine pG_lal rfl hk2 hk4 ?_
      refine pG_many 1 (pc1 := 17) (L1 := [some (.ref p0), some (.int p1)]) (st1 := [.long (Z.2.1 p0 (mjIx p1))]) (M1 := mjTo Z) rfl ?_
      simp only [Option.some.injEq] at h
      subst h
      exact pG_ret (r := some (.long (Z.2.1 p0 (mjIx p1)))) rfl ⟨rfl, rfl⟩
def f22_nameOfRule (a0 : Nat) (p0 : Int32) (Z : mjZt) : Option Int64 :=
  if mjIs a0 251 2 = true then
  mjBp (f21_longAt (a0 + 10) p0 Z) fun v3 =>
  some v3
  else none
theorem f22_nameOfRule_ok {a0 : Nat} {p0 : Int32} {Z : mjZt} {v9 : Int64} (h : f22_nameOfRule a0 p0 Z = some v9) : pG 22 0 (mjEnt [.ref a0, .int p0] (mjML 22)) [] (mjTo Z) (fun r M1 => r = some (.long v9) ∧ M1 = mjTo Z) := by
  unfold f22_nameOfRule at h
  show pG 22 0 [some (.ref a0), some (.int p0)] [] (mjTo Z) _
  refine pG_many 1 (pc1 := 1) (L1 := [some (.ref a0), some (.int p0)]) (st1 := [.ref a0]) (M1 := mjTo Z) rfl ?_
  have hk1 : mjIs a0 251 2 = true := by
    by_cases q9 : mjIs a0 251 2 = true
    · exact q9
    · rw [if_neg q9] at h; cases h
  rw [if_pos hk1] at h
  refine pG_getR (ci := 2) (f := 15) (b := a0 + 10) rfl rfl rfl hk1 (mjRc2_15 hk1) ?_
  refine pG_many 1 (pc1 := 5) (L1 := [some (.ref a0), some (.int p0)]) (st1 := [.int p0, .ref (a0 + 10)]) (M1 := mjTo Z) rfl ?_
  cases hq2 : f21_longAt (a0 + 10) p0 Z with
  | none => rw [hq2] at h; cases h
  | some v3 =>
    rw [hq2, mjBp_some] at h
    refine pG_call (k2 := 21) (As := [.ref (a0 + 10), .int p0]) (rest := []) rfl (by decide) (f21_longAt_ok hq2) ?_
    rintro r9 M9 ⟨rfl, rfl⟩
    show pG 22 8 [some (.ref a0), some (.int p0)] [.long v3] (mjTo Z) _
    simp only [Option.some.injEq] at h
    subst h
    exact pG_ret (r := some (.long v3)) rfl ⟨rfl, rfl⟩
def f23_isWhole (a0 : Nat) (p0 : Int32) (Z : mjZt) : Option Int32 :=
  if mjIs a0 251 2 = true then
  if mjCmp .le (Z.1 a0 0) 0 = true then
    some 0
  else
    mjBp (f8_runner a0 p0 Z) fun v4 =>
    if mjIs v4 251 7 = true then
    if mjCmp .ne (Z.1 v4 6) (Z.1 a0 0) = true then
      some 0
    else
      some 1
    else none
  else none
theorem f23_isWhole_ok {a0 : Nat} {p0 : Int32} {Z : mjZt} {v9 : Int32} (h : f23_isWhole a0 p0 Z = some v9) : pG 23 0 (mjEnt [.ref a0, .int p0] (mjML 23)) [] (mjTo Z) (fun r M1 => r = some (.int v9) ∧ M1 = mjTo Z) := by
  unfold f23_isWhole at h
  show pG 23 0 [some (.ref a0), some (.int p0)] [] (mjTo Z) _
  refine pG_many 1 (pc1 := 1) (L1 := [some (.ref a0), some (.int p0)]) (st1 := [.ref a0]) (M1 := mjTo Z) rfl ?_
  have hk1 : mjIs a0 251 2 = true := by
    by_cases q9 : mjIs a0 251 2 = true
    · exact q9
    · rw [if_neg q9] at h; cases h
  rw [if_pos hk1] at h
  refine pG_getI (ci := 2) (f := 0) rfl rfl (Or.inl rfl) hk1 ?_
  by_cases hc2 : mjCmp .le (Z.1 a0 0) 0 = true
  · rw [if_pos hc2] at h
    refine pG_ift (t := 26) rfl rfl hc2 ?_
    refine pG_many 1 (pc1 := 27) (L1 := [some (.ref a0), some (.int p0)]) (st1 := [.int 0]) (M1 := mjTo Z) rfl ?_
    simp only [Option.some.injEq] at h
    subst h
    exact pG_ret (r := some (.int 0)) rfl ⟨rfl, rfl⟩
  · rw [if_neg hc2] at h
    refine pG_iff (t := 26) rfl rfl hc2 ?_
    refine pG_many 2 (pc1 := 9) (L1 := [some (.ref a0), some (.int p0)]) (st1 := [.int p0, .ref a0]) (M1 := mjTo Z) rfl ?_
    cases hq3 : f8_runner a0 p0 Z with
    | none => rw [hq3] at h; cases h
    | some v4 =>
      rw [hq3, mjBp_some] at h
      refine pG_callV (k2 := 8) (As := [.ref a0, .int p0]) (rest := []) rfl rfl rfl rfl rfl (mjRcv_is hk1 (by decide)) (by decide) (f8_runner_ok hq3) ?_
      rintro r9 M9 ⟨rfl, rfl⟩
      show pG 23 12 [some (.ref a0), some (.int p0)] [.ref v4] (mjTo Z) _
      have hk6 : mjIs v4 251 7 = true := by
        by_cases q9 : mjIs v4 251 7 = true
        · exact q9
        · rw [if_neg q9] at h; cases h
      rw [if_pos hk6] at h
      refine pG_getI (ci := 7) (f := 6) rfl rfl (Or.inl rfl) hk6 ?_
      refine pG_many 1 (pc1 := 16) (L1 := [some (.ref a0), some (.int p0)]) (st1 := [.ref a0, .int (Z.1 v4 6)]) (M1 := mjTo Z) rfl ?_
      refine pG_getI (ci := 2) (f := 0) rfl rfl (Or.inl rfl) hk1 ?_
      by_cases hc7 : mjCmp .ne (Z.1 v4 6) (Z.1 a0 0) = true
      · rw [if_pos hc7] at h
        refine pG_cmt (t := 26) rfl rfl hc7 ?_
        refine pG_many 1 (pc1 := 27) (L1 := [some (.ref a0), some (.int p0)]) (st1 := [.int 0]) (M1 := mjTo Z) rfl ?_
        simp only [Option.some.injEq] at h
        subst h
        exact pG_ret (r := some (.int 0)) rfl ⟨rfl, rfl⟩
      · rw [if_neg hc7] at h
        refine pG_cmf (t := 26) rfl rfl hc7 ?_
        refine pG_many 2 (pc1 := 27) (L1 := [some (.ref a0), some (.int p0)]) (st1 := [.int 1]) (M1 := mjTo Z) rfl ?_
        simp only [Option.some.injEq] at h
        subst h
        exact pG_ret (r := some (.int 1)) rfl ⟨rfl, rfl⟩
def f24_teamInLane_h2 : Nat → Nat → Int32 → Int32 → mjZt → Option Int32
  | 0, _, _, _, _ => none
  | n + 1, x0, x1, x2, Z =>
    if mjIs x0 251 2 = true then
    if mjCmp .ge x2 (Z.1 x0 5) = true then
      some ((-1))
    else
      mjBp (f8_runner x0 x2 Z) fun v4 =>
      if mjIs v4 251 7 = true then
      if mjCmp .ne (Z.1 v4 5) x1 = true then
        f24_teamInLane_h2 n x0 x1 (x2 + 1) Z
      else
        some x2
      else none
    else none
theorem f24_teamInLane_h2_ok : ∀ (n : Nat) (x0 : Nat) (x1 : Int32) (x2 : Int32) (Z : mjZt) (v9 : Int32), f24_teamInLane_h2 n x0 x1 x2 Z = some v9 → pG 24 2 [some (.ref x0), some (.int x1), some (.int x2)] [] (mjTo Z) (fun r M1 => r = some (.int v9) ∧ M1 = mjTo Z)
  | 0, x0, x1, x2, Z, v9, h => by rw [f24_teamInLane_h2] at h; cases h
  | n + 1, x0, x1, x2, Z, v9, h => by
      rw [f24_teamInLane_h2] at h
      refine pG_many 2 (pc1 := 4) (L1 := [some (.ref x0), some (.int x1), some (.int x2)]) (st1 := [.ref x0, .int x2]) (M1 := mjTo Z) rfl ?_
      have hk1 : mjIs x0 251 2 = true := by
        by_cases q9 : mjIs x0 251 2 = true
        · exact q9
        · rw [if_neg q9] at h; cases h
      rw [if_pos hk1] at h
      refine pG_getI (ci := 2) (f := 5) rfl rfl (Or.inl rfl) hk1 ?_
      by_cases hc2 : mjCmp .ge x2 (Z.1 x0 5) = true
      · rw [if_pos hc2] at h
        refine pG_cmt (t := 30) rfl rfl hc2 ?_
        refine pG_many 1 (pc1 := 31) (L1 := [some (.ref x0), some (.int x1), some (.int x2)]) (st1 := [.int ((-1))]) (M1 := mjTo Z) rfl ?_
        simp only [Option.some.injEq] at h
        subst h
        exact pG_ret (r := some (.int ((-1)))) rfl ⟨rfl, rfl⟩
      · rw [if_neg hc2] at h
        refine pG_cmf (t := 30) rfl rfl hc2 ?_
        refine pG_many 2 (pc1 := 12) (L1 := [some (.ref x0), some (.int x1), some (.int x2)]) (st1 := [.int x2, .ref x0]) (M1 := mjTo Z) rfl ?_
        cases hq3 : f8_runner x0 x2 Z with
        | none => rw [hq3] at h; cases h
        | some v4 =>
          rw [hq3, mjBp_some] at h
          refine pG_callV (k2 := 8) (As := [.ref x0, .int x2]) (rest := []) rfl rfl rfl rfl rfl (mjRcv_is hk1 (by decide)) (by decide) (f8_runner_ok hq3) ?_
          rintro r9 M9 ⟨rfl, rfl⟩
          show pG 24 15 [some (.ref x0), some (.int x1), some (.int x2)] [.ref v4] (mjTo Z) _
          have hk6 : mjIs v4 251 7 = true := by
            by_cases q9 : mjIs v4 251 7 = true
            · exact q9
            · rw [if_neg q9] at h; cases h
          rw [if_pos hk6] at h
          refine pG_getI (ci := 7) (f := 5) rfl rfl (Or.inl rfl) hk6 ?_
          refine pG_many 1 (pc1 := 19) (L1 := [some (.ref x0), some (.int x1), some (.int x2)]) (st1 := [.int x1, .int (Z.1 v4 5)]) (M1 := mjTo Z) rfl ?_
          by_cases hc7 : mjCmp .ne (Z.1 v4 5) x1 = true
          · rw [if_pos hc7] at h
            refine pG_cmt (t := 24) rfl rfl hc7 ?_
            refine pG_many 2 (pc1 := 2) (L1 := [some (.ref x0), some (.int x1), some (.int (x2 + 1))]) (st1 := []) (M1 := mjTo Z) rfl ?_
            exact f24_teamInLane_h2_ok n x0 x1 (x2 + 1) Z v9 h
          · rw [if_neg hc7] at h
            refine pG_cmf (t := 24) rfl rfl hc7 ?_
            refine pG_many 1 (pc1 := 23) (L1 := [some (.ref x0), some (.int x1), some (.int x2)]) (st1 := [.int x2]) (M1 := mjTo Z) rfl ?_
            simp only [Option.some.injEq] at h
            subst h
            exact pG_ret (r := some (.int x2)) rfl ⟨rfl, rfl⟩
def f24_teamInLane (a0 : Nat) (p0 : Int32) (Z : mjZt) : Option Int32 :=
  f24_teamInLane_h2 mjF a0 p0 0 Z
theorem f24_teamInLane_ok {a0 : Nat} {p0 : Int32} {Z : mjZt} {v9 : Int32} (h : f24_teamInLane a0 p0 Z = some v9) : pG 24 0 (mjEnt [.ref a0, .int p0] (mjML 24)) [] (mjTo Z) (fun r M1 => r = some (.int v9) ∧ M1 = mjTo Z) := by
  unfold f24_teamInLane at h
  show pG 24 0 [some (.ref a0), some (.int p0), none] [] (mjTo Z) _
  refine pG_many 2 (pc1 := 2) (L1 := [some (.ref a0), some (.int p0), some (.int 0)]) (st1 := []) (M1 := mjTo Z) rfl ?_
  exact f24_teamInLane_h2_ok mjF a0 p0 0 Z v9 h
def f25_teamOfName_h2 : Nat → Nat → Int64 → Int32 → mjZt → Option Int32
  | 0, _, _, _, _ => none
  | n + 1, x0, x1, x3, Z =>
    if mjIs x0 251 2 = true then
    if mjCmp .ge x3 (Z.1 x0 5) = true then
      some ((-1))
    else
      mjBp (f8_runner x0 x3 Z) fun v4 =>
      if mjIs v4 251 7 = true then
      if mjCmp .ne (lg_cmp (Z.2.1 v4 4) x1) 0 = true then
        f25_teamOfName_h2 n x0 x1 (x3 + 1) Z
      else
        some x3
      else none
    else none
theorem f25_teamOfName_h2_ok : ∀ (n : Nat) (x0 : Nat) (x1 : Int64) (x3 : Int32) (d2 : Option Value) (Z : mjZt) (v9 : Int32), f25_teamOfName_h2 n x0 x1 x3 Z = some v9 → pG 25 2 [some (.ref x0), some (.long x1), d2, some (.int x3)] [] (mjTo Z) (fun r M1 => r = some (.int v9) ∧ M1 = mjTo Z)
  | 0, x0, x1, x3, d2, Z, v9, h => by rw [f25_teamOfName_h2] at h; cases h
  | n + 1, x0, x1, x3, d2, Z, v9, h => by
      rw [f25_teamOfName_h2] at h
      refine pG_many 2 (pc1 := 4) (L1 := [some (.ref x0), some (.long x1), d2, some (.int x3)]) (st1 := [.ref x0, .int x3]) (M1 := mjTo Z) rfl ?_
      have hk1 : mjIs x0 251 2 = true := by
        by_cases q9 : mjIs x0 251 2 = true
        · exact q9
        · rw [if_neg q9] at h; cases h
      rw [if_pos hk1] at h
      refine pG_getI (ci := 2) (f := 5) rfl rfl (Or.inl rfl) hk1 ?_
      by_cases hc2 : mjCmp .ge x3 (Z.1 x0 5) = true
      · rw [if_pos hc2] at h
        refine pG_cmt (t := 31) rfl rfl hc2 ?_
        refine pG_many 1 (pc1 := 32) (L1 := [some (.ref x0), some (.long x1), d2, some (.int x3)]) (st1 := [.int ((-1))]) (M1 := mjTo Z) rfl ?_
        simp only [Option.some.injEq] at h
        subst h
        exact pG_ret (r := some (.int ((-1)))) rfl ⟨rfl, rfl⟩
      · rw [if_neg hc2] at h
        refine pG_cmf (t := 31) rfl rfl hc2 ?_
        refine pG_many 2 (pc1 := 12) (L1 := [some (.ref x0), some (.long x1), d2, some (.int x3)]) (st1 := [.int x3, .ref x0]) (M1 := mjTo Z) rfl ?_
        cases hq3 : f8_runner x0 x3 Z with
        | none => rw [hq3] at h; cases h
        | some v4 =>
          rw [hq3, mjBp_some] at h
          refine pG_callV (k2 := 8) (As := [.ref x0, .int x3]) (rest := []) rfl rfl rfl rfl rfl (mjRcv_is hk1 (by decide)) (by decide) (f8_runner_ok hq3) ?_
          rintro r9 M9 ⟨rfl, rfl⟩
          show pG 25 15 [some (.ref x0), some (.long x1), d2, some (.int x3)] [.ref v4] (mjTo Z) _
          have hk6 : mjIs v4 251 7 = true := by
            by_cases q9 : mjIs v4 251 7 = true
            · exact q9
            · rw [if_neg q9] at h; cases h
          rw [if_pos hk6] at h
          refine pG_getL (ci := 7) (f := 4) rfl rfl rfl hk6 ?_
          refine pG_many 2 (pc1 := 20) (L1 := [some (.ref x0), some (.long x1), d2, some (.int x3)]) (st1 := [.int (lg_cmp (Z.2.1 v4 4) x1)]) (M1 := mjTo Z) rfl ?_
          by_cases hc7 : mjCmp .ne (lg_cmp (Z.2.1 v4 4) x1) 0 = true
          · rw [if_pos hc7] at h
            refine pG_ift (t := 25) rfl rfl hc7 ?_
            refine pG_many 2 (pc1 := 2) (L1 := [some (.ref x0), some (.long x1), (mjK1 d2), some (.int (x3 + 1))]) (st1 := []) (M1 := mjTo Z) rfl ?_
            exact f25_teamOfName_h2_ok n x0 x1 (x3 + 1) ((mjK1 d2)) Z v9 h
          · rw [if_neg hc7] at h
            refine pG_iff (t := 25) rfl rfl hc7 ?_
            refine pG_many 1 (pc1 := 24) (L1 := [some (.ref x0), some (.long x1), d2, some (.int x3)]) (st1 := [.int x3]) (M1 := mjTo Z) rfl ?_
            simp only [Option.some.injEq] at h
            subst h
            exact pG_ret (r := some (.int x3)) rfl ⟨rfl, rfl⟩
def f25_teamOfName (a0 : Nat) (p0 : Int64) (Z : mjZt) : Option Int32 :=
  f25_teamOfName_h2 mjF a0 p0 0 Z
theorem f25_teamOfName_ok {a0 : Nat} {p0 : Int64} {Z : mjZt} {v9 : Int32} (h : f25_teamOfName a0 p0 Z = some v9) : pG 25 0 (mjEnt [.ref a0, .long p0] (mjML 25)) [] (mjTo Z) (fun r M1 => r = some (.int v9) ∧ M1 = mjTo Z) := by
  unfold f25_teamOfName at h
  show pG 25 0 [some (.ref a0), some (.long p0), none, none] [] (mjTo Z) _
  refine pG_many 2 (pc1 := 2) (L1 := [some (.ref a0), some (.long p0), none, some (.int 0)]) (st1 := []) (M1 := mjTo Z) rfl ?_
  exact f25_teamOfName_h2_ok mjF a0 p0 0 none Z v9 h
def f26_isNameTaken_h13 : Nat → Nat → Int64 → Int32 → mjZt → Option Int32
  | 0, _, _, _, _ => none
  | n + 1, x0, x1, x3, Z =>
    if mjIs x0 251 2 = true then
    if mjCmp .ge x3 (Z.1 x0 8) = true then
      some 0
    else
      mjBp (f22_nameOfRule x0 x3 Z) fun v9 =>
      if mjCmp .ne (lg_cmp v9 x1) 0 = true then
        f26_isNameTaken_h13 n x0 x1 (x3 + 1) Z
      else
        some 1
    else none
theorem f26_isNameTaken_h13_ok : ∀ (n : Nat) (x0 : Nat) (x1 : Int64) (x3 : Int32) (d2 : Option Value) (Z : mjZt) (v9 : Int32), f26_isNameTaken_h13 n x0 x1 x3 Z = some v9 → pG 26 13 [some (.ref x0), some (.long x1), d2, some (.int x3)] [] (mjTo Z) (fun r M1 => r = some (.int v9) ∧ M1 = mjTo Z)
  | 0, x0, x1, x3, d2, Z, v9, h => by rw [f26_isNameTaken_h13] at h; cases h
  | n + 1, x0, x1, x3, d2, Z, v9, h => by
      rw [f26_isNameTaken_h13] at h
      refine pG_many 2 (pc1 := 15) (L1 := [some (.ref x0), some (.long x1), d2, some (.int x3)]) (st1 := [.ref x0, .int x3]) (M1 := mjTo Z) rfl ?_
      have hk6 : mjIs x0 251 2 = true := by
        by_cases q9 : mjIs x0 251 2 = true
        · exact q9
        · rw [if_neg q9] at h; cases h
      rw [if_pos hk6] at h
      refine pG_getI (ci := 2) (f := 8) rfl rfl (Or.inl rfl) hk6 ?_
      by_cases hc7 : mjCmp .ge x3 (Z.1 x0 8) = true
      · rw [if_pos hc7] at h
        refine pG_cmt (t := 39) rfl rfl hc7 ?_
        refine pG_many 1 (pc1 := 40) (L1 := [some (.ref x0), some (.long x1), d2, some (.int x3)]) (st1 := [.int 0]) (M1 := mjTo Z) rfl ?_
        simp only [Option.some.injEq] at h
        subst h
        exact pG_ret (r := some (.int 0)) rfl ⟨rfl, rfl⟩
      · rw [if_neg hc7] at h
        refine pG_cmf (t := 39) rfl rfl hc7 ?_
        refine pG_many 2 (pc1 := 23) (L1 := [some (.ref x0), some (.long x1), d2, some (.int x3)]) (st1 := [.int x3, .ref x0]) (M1 := mjTo Z) rfl ?_
        cases hq8 : f22_nameOfRule x0 x3 Z with
        | none => rw [hq8] at h; cases h
        | some v9 =>
          rw [hq8, mjBp_some] at h
          refine pG_callV (k2 := 22) (As := [.ref x0, .int x3]) (rest := []) rfl rfl rfl rfl rfl (mjRcv_is hk6 (by decide)) (by decide) (f22_nameOfRule_ok hq8) ?_
          rintro r9 M9 ⟨rfl, rfl⟩
          show pG 26 26 [some (.ref x0), some (.long x1), d2, some (.int x3)] [.long v9] (mjTo Z) _
          refine pG_many 2 (pc1 := 28) (L1 := [some (.ref x0), some (.long x1), d2, some (.int x3)]) (st1 := [.int (lg_cmp v9 x1)]) (M1 := mjTo Z) rfl ?_
          by_cases hc11 : mjCmp .ne (lg_cmp v9 x1) 0 = true
          · rw [if_pos hc11] at h
            refine pG_ift (t := 33) rfl rfl hc11 ?_
            refine pG_many 2 (pc1 := 13) (L1 := [some (.ref x0), some (.long x1), (mjK1 d2), some (.int (x3 + 1))]) (st1 := []) (M1 := mjTo Z) rfl ?_
            exact f26_isNameTaken_h13_ok n x0 x1 (x3 + 1) ((mjK1 d2)) Z v9 h
          · rw [if_neg hc11] at h
            refine pG_iff (t := 33) rfl rfl hc11 ?_
            refine pG_many 1 (pc1 := 32) (L1 := [some (.ref x0), some (.long x1), d2, some (.int x3)]) (st1 := [.int 1]) (M1 := mjTo Z) rfl ?_
            simp only [Option.some.injEq] at h
            subst h
            exact pG_ret (r := some (.int 1)) rfl ⟨rfl, rfl⟩
def f26_isNameTaken (a0 : Nat) (p0 : Int64) (Z : mjZt) : Option Int32 :=
  if mjIs a0 251 2 = true then
  mjBp (f25_teamOfName a0 p0 Z) fun v3 =>
  if mjCmp .eq v3 ((-1)) = true then
    f26_isNameTaken_h13 mjF a0 p0 0 Z
  else
    some 1
  else none
theorem f26_isNameTaken_ok {a0 : Nat} {p0 : Int64} {Z : mjZt} {v9 : Int32} (h : f26_isNameTaken a0 p0 Z = some v9) : pG 26 0 (mjEnt [.ref a0, .long p0] (mjML 26)) [] (mjTo Z) (fun r M1 => r = some (.int v9) ∧ M1 = mjTo Z) := by
  unfold f26_isNameTaken at h
  show pG 26 0 [some (.ref a0), some (.long p0), none, none] [] (mjTo Z) _
  refine pG_many 2 (pc1 := 2) (L1 := [some (.ref a0), some (.long p0), none, none]) (st1 := [.long p0, .ref a0]) (M1 := mjTo Z) rfl ?_
  have hk1 : mjIs a0 251 2 = true := by
    by_cases q9 : mjIs a0 251 2 = true
    · exact q9
    · rw [if_neg q9] at h; cases h
  rw [if_pos hk1] at h
  cases hq2 : f25_teamOfName a0 p0 Z with
  | none => rw [hq2] at h; cases h
  | some v3 =>
    rw [hq2, mjBp_some] at h
    refine pG_callV (k2 := 25) (As := [.ref a0, .long p0]) (rest := []) rfl rfl rfl rfl rfl (mjRcv_is hk1 (by decide)) (by decide) (f25_teamOfName_ok hq2) ?_
    rintro r9 M9 ⟨rfl, rfl⟩
    show pG 26 5 [some (.ref a0), some (.long p0), none, none] [.int v3] (mjTo Z) _
    refine pG_many 1 (pc1 := 6) (L1 := [some (.ref a0), some (.long p0), none, none]) (st1 := [.int ((-1)), .int v3]) (M1 := mjTo Z) rfl ?_
    by_cases hc5 : mjCmp .eq v3 ((-1)) = true
    · rw [if_pos hc5] at h
      refine pG_cmt (t := 11) rfl rfl hc5 ?_
      refine pG_many 2 (pc1 := 13) (L1 := [some (.ref a0), some (.long p0), none, some (.int 0)]) (st1 := []) (M1 := mjTo Z) rfl ?_
      exact f26_isNameTaken_h13_ok mjF a0 p0 0 none Z v9 h
    · rw [if_neg hc5] at h
      refine pG_cmf (t := 11) rfl rfl hc5 ?_
      refine pG_many 1 (pc1 := 10) (L1 := [some (.ref a0), some (.long p0), none, none]) (st1 := [.int 1]) (M1 := mjTo Z) rfl ?_
      simp only [Option.some.injEq] at h
      subst h
      exact pG_ret (r := some (.int 1)) rfl ⟨rfl, rfl⟩
def f27_addTeam (a0 : Nat) (p0 : Int64) (p1 : Int32) (Z : mjZt) : Option (Unit × mjZt) :=
  if mjIs a0 251 2 = true then
  if mjCmp .ge (Z.1 a0 5) 6 = true then
    some ((), Z)
  else
    mjLet (zSi Z a0 5 ((Z.1 a0 5) + 1)) fun Z3 =>
    mjBp (f8_runner a0 ((Z3.1 a0 5) - 1) Z3) fun v5 =>
    if mjIs v5 251 7 = true then
    mjLet (zSl Z3 v5 4 p0) fun Z8 =>
    mjLet (zSi Z8 v5 5 p1) fun Z9 =>
    mjLet (zSi Z9 v5 6 0) fun Z10 =>
    some ((), Z10)
    else none
  else none
theorem f27_addTeam_ok {a0 : Nat} {p0 : Int64} {p1 : Int32} {Z : mjZt} {v9 : Unit} {Z9 : mjZt} (h : f27_addTeam a0 p0 p1 Z = some (v9, Z9)) : pG 27 0 (mjEnt [.ref a0, .long p0, .int p1] (mjML 27)) [] (mjTo Z) (fun r M1 => r = none ∧ M1 = mjTo Z9) := by
  unfold f27_addTeam at h
  show pG 27 0 [some (.ref a0), some (.long p0), none, some (.int p1), none] [] (mjTo Z) _
  refine pG_many 1 (pc1 := 1) (L1 := [some (.ref a0), some (.long p0), none, some (.int p1), none]) (st1 := [.ref a0]) (M1 := mjTo Z) rfl ?_
  have hk1 : mjIs a0 251 2 = true := by
    by_cases q9 : mjIs a0 251 2 = true
    · exact q9
    · rw [if_neg q9] at h; cases h
  rw [if_pos hk1] at h
  refine pG_getI (ci := 2) (f := 5) rfl rfl (Or.inl rfl) hk1 ?_
  refine pG_many 1 (pc1 := 6) (L1 := [some (.ref a0), some (.long p0), none, some (.int p1), none]) (st1 := [.int 6, .int (Z.1 a0 5)]) (M1 := mjTo Z) rfl ?_
  by_cases hc2 : mjCmp .ge (Z.1 a0 5) 6 = true
  · rw [if_pos hc2] at h
    refine pG_cmt (t := 49) rfl rfl hc2 ?_
    simp only [Option.some.injEq, Prod.mk.injEq] at h
    obtain ⟨-, rfl⟩ := h
    exact pG_ret (r := none) rfl ⟨rfl, rfl⟩
  · rw [if_neg hc2] at h
    refine pG_cmf (t := 49) rfl rfl hc2 ?_
    refine pG_many 2 (pc1 := 11) (L1 := [some (.ref a0), some (.long p0), none, some (.int p1), none]) (st1 := [.ref a0, .ref a0]) (M1 := mjTo Z) rfl ?_
    refine pG_getI (ci := 2) (f := 5) rfl rfl (Or.inl rfl) hk1 ?_
    refine pG_many 2 (pc1 := 16) (L1 := [some (.ref a0), some (.long p0), none, some (.int p1), none]) (st1 := [.int ((Z.1 a0 5) + 1), .ref a0]) (M1 := mjTo Z) rfl ?_
    refine pG_putI (ci := 2) (f := 5) rfl rfl rfl rfl hk1 ?_
    rw [mjLet] at h
    generalize zSi Z a0 5 ((Z.1 a0 5) + 1) = Z3 at h ⊢
    refine pG_many 2 (pc1 := 21) (L1 := [some (.ref a0), some (.long p0), none, some (.int p1), none]) (st1 := [.ref a0, .ref a0]) (M1 := mjTo Z3) rfl ?_
    refine pG_getI (ci := 2) (f := 5) rfl rfl (Or.inl rfl) hk1 ?_
    refine pG_many 2 (pc1 := 26) (L1 := [some (.ref a0), some (.long p0), none, some (.int p1), none]) (st1 := [.int ((Z3.1 a0 5) - 1), .ref a0]) (M1 := mjTo Z3) rfl ?_
    cases hq4 : f8_runner a0 ((Z3.1 a0 5) - 1) Z3 with
    | none => rw [hq4] at h; cases h
    | some v5 =>
      rw [hq4, mjBp_some] at h
      refine pG_callV (k2 := 8) (As := [.ref a0, .int ((Z3.1 a0 5) - 1)]) (rest := []) rfl rfl rfl rfl rfl (mjRcv_is hk1 (by decide)) (by decide) (f8_runner_ok hq4) ?_
      rintro r9 M9 ⟨rfl, rfl⟩
      show pG 27 29 [some (.ref a0), some (.long p0), none, some (.int p1), none] [.ref v5] (mjTo Z3) _
      refine pG_many 3 (pc1 := 34) (L1 := [some (.ref a0), some (.long p0), none, some (.int p1), some (.ref v5)]) (st1 := [.long p0, .ref v5]) (M1 := mjTo Z3) rfl ?_
      have hk7 : mjIs v5 251 7 = true := by
        by_cases q9 : mjIs v5 251 7 = true
        · exact q9
        · rw [if_neg q9] at h; cases h
      rw [if_pos hk7] at h
      refine pG_putL (ci := 7) (f := 4) rfl rfl rfl rfl hk7 ?_
      rw [mjLet] at h
      generalize zSl Z3 v5 4 p0 = Z8 at h ⊢
      refine pG_many 2 (pc1 := 40) (L1 := [some (.ref a0), some (.long p0), none, some (.int p1), some (.ref v5)]) (st1 := [.int p1, .ref v5]) (M1 := mjTo Z8) rfl ?_
      refine pG_putI (ci := 7) (f := 5) rfl rfl rfl rfl hk7 ?_
      rw [mjLet] at h
      generalize zSi Z8 v5 5 p1 = Z9 at h ⊢
      refine pG_many 2 (pc1 := 46) (L1 := [some (.ref a0), some (.long p0), none, some (.int p1), some (.ref v5)]) (st1 := [.int 0, .ref v5]) (M1 := mjTo Z9) rfl ?_
      refine pG_putI (ci := 7) (f := 6) rfl rfl rfl rfl hk7 ?_
      rw [mjLet] at h
      generalize zSi Z9 v5 6 0 = Z10 at h ⊢
      simp only [Option.some.injEq, Prod.mk.injEq] at h
      obtain ⟨-, rfl⟩ := h
      exact pG_ret (r := none) rfl ⟨rfl, rfl⟩
def f28_addAct (a0 : Nat) (p0 : Int32) (p1 : Int32) (p2 : Int32) (p3 : Int32) (p4 : Int32) (Z : mjZt) : Option (Unit × mjZt) :=
  if mjIs a0 251 2 = true then
  mjBp (f6_deed a0 (Z.1 a0 6) Z) fun v3 =>
  if mjIs v3 251 0 = true then
  mjBd (f1_tell v3 p0 p1 p2 p3 p4 Z) fun _ Z8 =>
  mjLet (zSi Z8 a0 6 ((Z8.1 a0 6) + 1)) fun Z9 =>
  some ((), Z9)
  else none
  else none
theorem f28_addAct_ok {a0 : Nat} {p0 : Int32} {p1 : Int32} {p2 : Int32} {p3 : Int32} {p4 : Int32} {Z : mjZt} {v9 : Unit} {Z9 : mjZt} (h : f28_addAct a0 p0 p1 p2 p3 p4 Z = some (v9, Z9)) : pG 28 0 (mjEnt [.ref a0, .int p0, .int p1, .int p2, .int p3, .int p4] (mjML 28)) [] (mjTo Z) (fun r M1 => r = none ∧ M1 = mjTo Z9) := by
  unfold f28_addAct at h
  show pG 28 0 [some (.ref a0), some (.int p0), some (.int p1), some (.int p2), some (.int p3), some (.int p4)] [] (mjTo Z) _
  refine pG_many 2 (pc1 := 2) (L1 := [some (.ref a0), some (.int p0), some (.int p1), some (.int p2), some (.int p3), some (.int p4)]) (st1 := [.ref a0, .ref a0]) (M1 := mjTo Z) rfl ?_
  have hk1 : mjIs a0 251 2 = true := by
    by_cases q9 : mjIs a0 251 2 = true
    · exact q9
    · rw [if_neg q9] at h; cases h
  rw [if_pos hk1] at h
  refine pG_getI (ci := 2) (f := 6) rfl rfl (Or.inl rfl) hk1 ?_
  cases hq2 : f6_deed a0 (Z.1 a0 6) Z with
  | none => rw [hq2] at h; cases h
  | some v3 =>
    rw [hq2, mjBp_some] at h
    refine pG_callV (k2 := 6) (As := [.ref a0, .int (Z.1 a0 6)]) (rest := []) rfl rfl rfl rfl rfl (mjRcv_is hk1 (by decide)) (by decide) (f6_deed_ok hq2) ?_
    rintro r9 M9 ⟨rfl, rfl⟩
    show pG 28 8 [some (.ref a0), some (.int p0), some (.int p1), some (.int p2), some (.int p3), some (.int p4)] [.ref v3] (mjTo Z) _
    refine pG_many 5 (pc1 := 15) (L1 := [some (.ref a0), some (.int p0), some (.int p1), some (.int p2), some (.int p3), some (.int p4)]) (st1 := [.int p4, .int p3, .int p2, .int p1, .int p0, .ref v3]) (M1 := mjTo Z) rfl ?_
    have hk5 : mjIs v3 251 0 = true := by
      by_cases q9 : mjIs v3 251 0 = true
      · exact q9
      · rw [if_neg q9] at h; cases h
    rw [if_pos hk5] at h
    cases hq6 : f1_tell v3 p0 p1 p2 p3 p4 Z with
    | none => rw [hq6] at h; cases h
    | some w =>
      obtain ⟨v7, Z8⟩ := w
      rw [hq6, mjBd_some] at h
      refine pG_callV (k2 := 1) (As := [.ref v3, .int p0, .int p1, .int p2, .int p3, .int p4]) (rest := []) rfl rfl rfl rfl rfl (mjRcv_is hk5 (by decide)) (by decide) (f1_tell_ok hq6) ?_
      rintro r9 M9 ⟨rfl, rfl⟩
      show pG 28 18 [some (.ref a0), some (.int p0), some (.int p1), some (.int p2), some (.int p3), some (.int p4)] [] (mjTo Z8) _
      refine pG_many 2 (pc1 := 20) (L1 := [some (.ref a0), some (.int p0), some (.int p1), some (.int p2), some (.int p3), some (.int p4)]) (st1 := [.ref a0, .ref a0]) (M1 := mjTo Z8) rfl ?_
      refine pG_getI (ci := 2) (f := 6) rfl rfl (Or.inl rfl) hk1 ?_
      refine pG_many 2 (pc1 := 25) (L1 := [some (.ref a0), some (.int p0), some (.int p1), some (.int p2), some (.int p3), some (.int p4)]) (st1 := [.int ((Z8.1 a0 6) + 1), .ref a0]) (M1 := mjTo Z8) rfl ?_
      refine pG_putI (ci := 2) (f := 6) rfl rfl rfl rfl hk1 ?_
      rw [mjLet] at h
      generalize zSi Z8 a0 6 ((Z8.1 a0 6) + 1) = Z9 at h ⊢
      simp only [Option.some.injEq, Prod.mk.injEq] at h
      obtain ⟨-, rfl⟩ := h
      exact pG_ret (r := none) rfl ⟨rfl, rfl⟩
def f29_addRule (a0 : Nat) (p0 : Int64) (p1 : Int32) (Z : mjZt) : Option (Unit × mjZt) :=
  if mjIs a0 251 2 = true then
  if mjCmp .lt (Z.1 a0 8) 0 = true then
    some ((), Z)
  else
    if mjCmp .ge (Z.1 a0 8) 8 = true then
      some ((), Z)
    else
      if mjIs (a0 + 10) 251 14 = true then
      if mjIn (Z.1 a0 8) (mjLay (a0 + 10)).2 = true then
      mjLet (zSl Z (a0 + 10) (mjIx (Z.1 a0 8)) p0) fun Z6 =>
      if mjIs (a0 + 11) 251 13 = true then
      if mjIn (Z6.1 a0 8) (mjLay (a0 + 11)).2 = true then
      mjLet (zSi Z6 (a0 + 11) (mjIx (Z6.1 a0 8)) p1) fun Z9 =>
      mjLet (zSi Z9 a0 8 ((Z9.1 a0 8) + 1)) fun Z10 =>
      some ((), Z10)
      else none
      else none
      else none
      else none
  else none
theorem f29_addRule_ok {a0 : Nat} {p0 : Int64} {p1 : Int32} {Z : mjZt} {v9 : Unit} {Z9 : mjZt} (h : f29_addRule a0 p0 p1 Z = some (v9, Z9)) : pG 29 0 (mjEnt [.ref a0, .long p0, .int p1] (mjML 29)) [] (mjTo Z) (fun r M1 => r = none ∧ M1 = mjTo Z9) := by
  unfold f29_addRule at h
  show pG 29 0 [some (.ref a0), some (.long p0), none, some (.int p1)] [] (mjTo Z) _
  refine pG_many 1 (pc1 := 1) (L1 := [some (.ref a0), some (.long p0), none, some (.int p1)]) (st1 := [.ref a0]) (M1 := mjTo Z) rfl ?_
  have hk1 : mjIs a0 251 2 = true := by
    by_cases q9 : mjIs a0 251 2 = true
    · exact q9
    · rw [if_neg q9] at h; cases h
  rw [if_pos hk1] at h
  refine pG_getI (ci := 2) (f := 8) rfl rfl (Or.inl rfl) hk1 ?_
  by_cases hc2 : mjCmp .lt (Z.1 a0 8) 0 = true
  · rw [if_pos hc2] at h
    refine pG_ift (t := 46) rfl rfl hc2 ?_
    simp only [Option.some.injEq, Prod.mk.injEq] at h
    obtain ⟨-, rfl⟩ := h
    exact pG_ret (r := none) rfl ⟨rfl, rfl⟩
  · rw [if_neg hc2] at h
    refine pG_iff (t := 46) rfl rfl hc2 ?_
    refine pG_many 1 (pc1 := 8) (L1 := [some (.ref a0), some (.long p0), none, some (.int p1)]) (st1 := [.ref a0]) (M1 := mjTo Z) rfl ?_
    refine pG_getI (ci := 2) (f := 8) rfl rfl (Or.inl rfl) hk1 ?_
    refine pG_many 1 (pc1 := 13) (L1 := [some (.ref a0), some (.long p0), none, some (.int p1)]) (st1 := [.int 8, .int (Z.1 a0 8)]) (M1 := mjTo Z) rfl ?_
    by_cases hc3 : mjCmp .ge (Z.1 a0 8) 8 = true
    · rw [if_pos hc3] at h
      refine pG_cmt (t := 46) rfl rfl hc3 ?_
      simp only [Option.some.injEq, Prod.mk.injEq] at h
      obtain ⟨-, rfl⟩ := h
      exact pG_ret (r := none) rfl ⟨rfl, rfl⟩
    · rw [if_neg hc3] at h
      refine pG_cmf (t := 46) rfl rfl hc3 ?_
      refine pG_many 1 (pc1 := 17) (L1 := [some (.ref a0), some (.long p0), none, some (.int p1)]) (st1 := [.ref a0]) (M1 := mjTo Z) rfl ?_
      refine pG_getR (ci := 2) (f := 15) (b := a0 + 10) rfl rfl rfl hk1 (mjRc2_15 hk1) ?_
      refine pG_many 1 (pc1 := 21) (L1 := [some (.ref a0), some (.long p0), none, some (.int p1)]) (st1 := [.ref a0, .ref (a0 + 10)]) (M1 := mjTo Z) rfl ?_
      refine pG_getI (ci := 2) (f := 8) rfl rfl (Or.inl rfl) hk1 ?_
      refine pG_many 1 (pc1 := 25) (L1 := [some (.ref a0), some (.long p0), none, some (.int p1)]) (st1 := [.long p0, .int (Z.1 a0 8), .ref (a0 + 10)]) (M1 := mjTo Z) rfl ?_
      have hk4 : mjIs (a0 + 10) 251 14 = true := by
        by_cases q9 : mjIs (a0 + 10) 251 14 = true
        · exact q9
        · rw [if_neg q9] at h; cases h
      rw [if_pos hk4] at h
      have hk5 : mjIn (Z.1 a0 8) (mjLay (a0 + 10)).2 = true := by
        by_cases q9 : mjIn (Z.1 a0 8) (mjLay (a0 + 10)).2 = true
        · exact q9
        · rw [if_neg q9] at h; cases h
      rw [if_pos hk5] at h
      refine pG_las rfl hk4 hk5 (?_ : pG 29 26 [some (.ref a0), some (.long p0), none, some (.int p1)] [] (mjTo (zSl Z (a0 + 10) (mjIx (Z.1 a0 8)) p0)) _)
      rw [mjLet] at h
      generalize zSl Z (a0 + 10) (mjIx (Z.1 a0 8)) p0 = Z6 at h ⊢
      refine pG_many 1 (pc1 := 27) (L1 := [some (.ref a0), some (.long p0), none, some (.int p1)]) (st1 := [.ref a0]) (M1 := mjTo Z6) rfl ?_
      refine pG_getR (ci := 2) (f := 16) (b := a0 + 11) rfl rfl rfl hk1 (mjRc2_16 hk1) ?_
      refine pG_many 1 (pc1 := 31) (L1 := [some (.ref a0), some (.long p0), none, some (.int p1)]) (st1 := [.ref a0, .ref (a0 + 11)]) (M1 := mjTo Z6) rfl ?_
      refine pG_getI (ci := 2) (f := 8) rfl rfl (Or.inl rfl) hk1 ?_
      refine pG_many 1 (pc1 := 35) (L1 := [some (.ref a0), some (.long p0), none, some (.int p1)]) (st1 := [.int p1, .int (Z6.1 a0 8), .ref (a0 + 11)]) (M1 := mjTo Z6) rfl ?_
      have hk7 : mjIs (a0 + 11) 251 13 = true := by
        by_cases q9 : mjIs (a0 + 11) 251 13 = true
        · exact q9
        · rw [if_neg q9] at h; cases h
      rw [if_pos hk7] at h
      have hk8 : mjIn (Z6.1 a0 8) (mjLay (a0 + 11)).2 = true := by
        by_cases q9 : mjIn (Z6.1 a0 8) (mjLay (a0 + 11)).2 = true
        · exact q9
        · rw [if_neg q9] at h; cases h
      rw [if_pos hk8] at h
      refine pG_ias rfl hk7 hk8 (?_ : pG 29 36 [some (.ref a0), some (.long p0), none, some (.int p1)] [] (mjTo (zSi Z6 (a0 + 11) (mjIx (Z6.1 a0 8)) p1)) _)
      rw [mjLet] at h
      generalize zSi Z6 (a0 + 11) (mjIx (Z6.1 a0 8)) p1 = Z9 at h ⊢
      refine pG_many 2 (pc1 := 38) (L1 := [some (.ref a0), some (.long p0), none, some (.int p1)]) (st1 := [.ref a0, .ref a0]) (M1 := mjTo Z9) rfl ?_
      refine pG_getI (ci := 2) (f := 8) rfl rfl (Or.inl rfl) hk1 ?_
      refine pG_many 2 (pc1 := 43) (L1 := [some (.ref a0), some (.long p0), none, some (.int p1)]) (st1 := [.int ((Z9.1 a0 8) + 1), .ref a0]) (M1 := mjTo Z9) rfl ?_
      refine pG_putI (ci := 2) (f := 8) rfl rfl rfl rfl hk1 ?_
      rw [mjLet] at h
      generalize zSi Z9 a0 8 ((Z9.1 a0 8) + 1) = Z10 at h ⊢
      simp only [Option.some.injEq, Prod.mk.injEq] at h
      obtain ⟨-, rfl⟩ := h
      exact pG_ret (r := none) rfl ⟨rfl, rfl⟩
def f30_mostMetres (a0 : Nat) (p0 : Int32) (Z : mjZt) : Option Int32 :=
  if mjIs a0 251 2 = true then
  if mjCmp .ne p0 (Z.1 a0 0) = true then
    some 20
  else
    some 0
  else none
theorem f30_mostMetres_ok {a0 : Nat} {p0 : Int32} {Z : mjZt} {v9 : Int32} (h : f30_mostMetres a0 p0 Z = some v9) : pG 30 0 (mjEnt [.ref a0, .int p0] (mjML 30)) [] (mjTo Z) (fun r M1 => r = some (.int v9) ∧ M1 = mjTo Z) := by
  unfold f30_mostMetres at h
  show pG 30 0 [some (.ref a0), some (.int p0)] [] (mjTo Z) _
  refine pG_many 2 (pc1 := 2) (L1 := [some (.ref a0), some (.int p0)]) (st1 := [.ref a0, .int p0]) (M1 := mjTo Z) rfl ?_
  have hk1 : mjIs a0 251 2 = true := by
    by_cases q9 : mjIs a0 251 2 = true
    · exact q9
    · rw [if_neg q9] at h; cases h
  rw [if_pos hk1] at h
  refine pG_getI (ci := 2) (f := 0) rfl rfl (Or.inl rfl) hk1 ?_
  by_cases hc2 : mjCmp .ne p0 (Z.1 a0 0) = true
  · rw [if_pos hc2] at h
    refine pG_cmt (t := 12) rfl rfl hc2 ?_
    refine pG_many 1 (pc1 := 14) (L1 := [some (.ref a0), some (.int p0)]) (st1 := [.int 20]) (M1 := mjTo Z) rfl ?_
    simp only [Option.some.injEq] at h
    subst h
    exact pG_ret (r := some (.int 20)) rfl ⟨rfl, rfl⟩
  · rw [if_neg hc2] at h
    refine pG_cmf (t := 12) rfl rfl hc2 ?_
    refine pG_many 2 (pc1 := 14) (L1 := [some (.ref a0), some (.int p0)]) (st1 := [.int 0]) (M1 := mjTo Z) rfl ?_
    simp only [Option.some.injEq] at h
    subst h
    exact pG_ret (r := some (.int 0)) rfl ⟨rfl, rfl⟩
def f31_settle_h2 : Nat → Nat → Int32 → Int32 → mjZt → Option (Unit × mjZt)
  | 0, _, _, _, _ => none
  | n + 1, x0, x1, x2, Z =>
    if mjIs x0 251 7 = true then
    if mjCmp .gt x2 (Z.1 x0 6) = true then
      some ((), Z)
    else
      if mjCmp .gt x2 6 = true then
        some ((), Z)
      else
        if mjIs (x0 + 3) 251 13 = true then
        if mjIn (x2 - 1) (mjLay (x0 + 3)).2 = true then
        if mjIs (x0 + 1) 251 13 = true then
        if mjIn x2 (mjLay (x0 + 1)).2 = true then
        if mjIn x2 (mjLay (x0 + 3)).2 = true then
        mjLet (zSi Z (x0 + 3) (mjIx x2) ((Z.1 (x0 + 3) (mjIx (x2 - 1))) + (Z.1 (x0 + 1) (mjIx x2)))) fun Z9 =>
        if mjIs (x0 + 2) 251 13 = true then
        if mjIn x2 (mjLay (x0 + 2)).2 = true then
        if mjIs (x0 + 4) 251 13 = true then
        if mjIn x2 (mjLay (x0 + 4)).2 = true then
        mjLet (zSi Z9 (x0 + 4) (mjIx x2) (((x2 * x1) + (Z9.1 (x0 + 2) (mjIx x2))) * 10)) fun Z14 =>
        f31_settle_h2 n x0 x1 (x2 + 1) Z14
        else none
        else none
        else none
        else none
        else none
        else none
        else none
        else none
        else none
    else none
theorem f31_settle_h2_ok : ∀ (n : Nat) (x0 : Nat) (x1 : Int32) (x2 : Int32) (Z : mjZt) (v9 : Unit) (Z9 : mjZt), f31_settle_h2 n x0 x1 x2 Z = some (v9, Z9) → pG 31 2 [some (.ref x0), some (.int x1), some (.int x2)] [] (mjTo Z) (fun r M1 => r = none ∧ M1 = mjTo Z9)
  | 0, x0, x1, x2, Z, v9, Z9, h => by rw [f31_settle_h2] at h; cases h
  | n + 1, x0, x1, x2, Z, v9, Z9, h => by
      rw [f31_settle_h2] at h
      refine pG_many 2 (pc1 := 4) (L1 := [some (.ref x0), some (.int x1), some (.int x2)]) (st1 := [.ref x0, .int x2]) (M1 := mjTo Z) rfl ?_
      have hk1 : mjIs x0 251 7 = true := by
        by_cases q9 : mjIs x0 251 7 = true
        · exact q9
        · rw [if_neg q9] at h; cases h
      rw [if_pos hk1] at h
      refine pG_getI (ci := 7) (f := 6) rfl rfl (Or.inl rfl) hk1 ?_
      by_cases hc2 : mjCmp .gt x2 (Z.1 x0 6) = true
      · rw [if_pos hc2] at h
        refine pG_cmt (t := 62) rfl rfl hc2 ?_
        simp only [Option.some.injEq, Prod.mk.injEq] at h
        obtain ⟨-, rfl⟩ := h
        exact pG_ret (r := none) rfl ⟨rfl, rfl⟩
      · rw [if_neg hc2] at h
        refine pG_cmf (t := 62) rfl rfl hc2 ?_
        refine pG_many 2 (pc1 := 13) (L1 := [some (.ref x0), some (.int x1), some (.int x2)]) (st1 := [.int 6, .int x2]) (M1 := mjTo Z) rfl ?_
        by_cases hc3 : mjCmp .gt x2 6 = true
        · rw [if_pos hc3] at h
          refine pG_cmt (t := 62) rfl rfl hc3 ?_
          simp only [Option.some.injEq, Prod.mk.injEq] at h
          obtain ⟨-, rfl⟩ := h
          exact pG_ret (r := none) rfl ⟨rfl, rfl⟩
        · rw [if_neg hc3] at h
          refine pG_cmf (t := 62) rfl rfl hc3 ?_
          refine pG_many 1 (pc1 := 17) (L1 := [some (.ref x0), some (.int x1), some (.int x2)]) (st1 := [.ref x0]) (M1 := mjTo Z) rfl ?_
          refine pG_getR (ci := 7) (f := 2) (b := x0 + 3) rfl rfl rfl hk1 (mjRc7_2 hk1) ?_
          refine pG_many 2 (pc1 := 22) (L1 := [some (.ref x0), some (.int x1), some (.int x2)]) (st1 := [.ref x0, .int x2, .ref (x0 + 3)]) (M1 := mjTo Z) rfl ?_
          refine pG_getR (ci := 7) (f := 2) (b := x0 + 3) rfl rfl rfl hk1 (mjRc7_2 hk1) ?_
          refine pG_many 3 (pc1 := 28) (L1 := [some (.ref x0), some (.int x1), some (.int x2)]) (st1 := [.int (x2 - 1), .ref (x0 + 3), .int x2, .ref (x0 + 3)]) (M1 := mjTo Z) rfl ?_
          have hk4 : mjIs (x0 + 3) 251 13 = true := by
            by_cases q9 : mjIs (x0 + 3) 251 13 = true
            · exact q9
            · rw [if_neg q9] at h; cases h
          rw [if_pos hk4] at h
          have hk5 : mjIn (x2 - 1) (mjLay (x0 + 3)).2 = true := by
            by_cases q9 : mjIn (x2 - 1) (mjLay (x0 + 3)).2 = true
            · exact q9
            · rw [if_neg q9] at h; cases h
          rw [if_pos hk5] at h
          refine pG_ial rfl hk4 hk5 ?_
          refine pG_many 1 (pc1 := 30) (L1 := [some (.ref x0), some (.int x1), some (.int x2)]) (st1 := [.ref x0, .int (Z.1 (x0 + 3) (mjIx (x2 - 1))), .int x2, .ref (x0 + 3)]) (M1 := mjTo Z) rfl ?_
          refine pG_getR (ci := 7) (f := 0) (b := x0 + 1) rfl rfl rfl hk1 (mjRc7_0 hk1) ?_
          refine pG_many 1 (pc1 := 34) (L1 := [some (.ref x0), some (.int x1), some (.int x2)]) (st1 := [.int x2, .ref (x0 + 1), .int (Z.1 (x0 + 3) (mjIx (x2 - 1))), .int x2, .ref (x0 + 3)]) (M1 := mjTo Z) rfl ?_
          have hk6 : mjIs (x0 + 1) 251 13 = true := by
            by_cases q9 : mjIs (x0 + 1) 251 13 = true
            · exact q9
            · rw [if_neg q9] at h; cases h
          rw [if_pos hk6] at h
          have hk7 : mjIn x2 (mjLay (x0 + 1)).2 = true := by
            by_cases q9 : mjIn x2 (mjLay (x0 + 1)).2 = true
            · exact q9
            · rw [if_neg q9] at h; cases h
          rw [if_pos hk7] at h
          refine pG_ial rfl hk6 hk7 ?_
          refine pG_many 1 (pc1 := 36) (L1 := [some (.ref x0), some (.int x1), some (.int x2)]) (st1 := [.int ((Z.1 (x0 + 3) (mjIx (x2 - 1))) + (Z.1 (x0 + 1) (mjIx x2))), .int x2, .ref (x0 + 3)]) (M1 := mjTo Z) rfl ?_
          have hk8 : mjIn x2 (mjLay (x0 + 3)).2 = true := by
            by_cases q9 : mjIn x2 (mjLay (x0 + 3)).2 = true
            · exact q9
            · rw [if_neg q9] at h; cases h
          rw [if_pos hk8] at h
          refine pG_ias rfl hk4 hk8 (?_ : pG 31 37 [some (.ref x0), some (.int x1), some (.int x2)] [] (mjTo (zSi Z (x0 + 3) (mjIx x2) ((Z.1 (x0 + 3) (mjIx (x2 - 1))) + (Z.1 (x0 + 1) (mjIx x2))))) _)
          rw [mjLet] at h
          generalize zSi Z (x0 + 3) (mjIx x2) ((Z.1 (x0 + 3) (mjIx (x2 - 1))) + (Z.1 (x0 + 1) (mjIx x2))) = Z9 at h ⊢
          refine pG_many 1 (pc1 := 38) (L1 := [some (.ref x0), some (.int x1), some (.int x2)]) (st1 := [.ref x0]) (M1 := mjTo Z9) rfl ?_
          refine pG_getR (ci := 7) (f := 3) (b := x0 + 4) rfl rfl rfl hk1 (mjRc7_3 hk1) ?_
          refine pG_many 5 (pc1 := 46) (L1 := [some (.ref x0), some (.int x1), some (.int x2)]) (st1 := [.ref x0, .int (x2 * x1), .int x2, .ref (x0 + 4)]) (M1 := mjTo Z9) rfl ?_
          refine pG_getR (ci := 7) (f := 1) (b := x0 + 2) rfl rfl rfl hk1 (mjRc7_1 hk1) ?_
          refine pG_many 1 (pc1 := 50) (L1 := [some (.ref x0), some (.int x1), some (.int x2)]) (st1 := [.int x2, .ref (x0 + 2), .int (x2 * x1), .int x2, .ref (x0 + 4)]) (M1 := mjTo Z9) rfl ?_
          have hk10 : mjIs (x0 + 2) 251 13 = true := by
            by_cases q9 : mjIs (x0 + 2) 251 13 = true
            · exact q9
            · rw [if_neg q9] at h; cases h
          rw [if_pos hk10] at h
          have hk11 : mjIn x2 (mjLay (x0 + 2)).2 = true := by
            by_cases q9 : mjIn x2 (mjLay (x0 + 2)).2 = true
            · exact q9
            · rw [if_neg q9] at h; cases h
          rw [if_pos hk11] at h
          refine pG_ial rfl hk10 hk11 ?_
          refine pG_many 3 (pc1 := 55) (L1 := [some (.ref x0), some (.int x1), some (.int x2)]) (st1 := [.int (((x2 * x1) + (Z9.1 (x0 + 2) (mjIx x2))) * 10), .int x2, .ref (x0 + 4)]) (M1 := mjTo Z9) rfl ?_
          have hk12 : mjIs (x0 + 4) 251 13 = true := by
            by_cases q9 : mjIs (x0 + 4) 251 13 = true
            · exact q9
            · rw [if_neg q9] at h; cases h
          rw [if_pos hk12] at h
          have hk13 : mjIn x2 (mjLay (x0 + 4)).2 = true := by
            by_cases q9 : mjIn x2 (mjLay (x0 + 4)).2 = true
            · exact q9
            · rw [if_neg q9] at h; cases h
          rw [if_pos hk13] at h
          refine pG_ias rfl hk12 hk13 (?_ : pG 31 56 [some (.ref x0), some (.int x1), some (.int x2)] [] (mjTo (zSi Z9 (x0 + 4) (mjIx x2) (((x2 * x1) + (Z9.1 (x0 + 2) (mjIx x2))) * 10))) _)
          rw [mjLet] at h
          generalize zSi Z9 (x0 + 4) (mjIx x2) (((x2 * x1) + (Z9.1 (x0 + 2) (mjIx x2))) * 10) = Z14 at h ⊢
          refine pG_many 2 (pc1 := 2) (L1 := [some (.ref x0), some (.int x1), some (.int (x2 + 1))]) (st1 := []) (M1 := mjTo Z14) rfl ?_
          exact f31_settle_h2_ok n x0 x1 (x2 + 1) Z14 v9 Z9 h
def f31_settle (a0 : Nat) (p0 : Int32) (Z : mjZt) : Option (Unit × mjZt) :=
  f31_settle_h2 mjF a0 p0 1 Z
theorem f31_settle_ok {a0 : Nat} {p0 : Int32} {Z : mjZt} {v9 : Unit} {Z9 : mjZt} (h : f31_settle a0 p0 Z = some (v9, Z9)) : pG 31 0 (mjEnt [.ref a0, .int p0] (mjML 31)) [] (mjTo Z) (fun r M1 => r = none ∧ M1 = mjTo Z9) := by
  unfold f31_settle at h
  show pG 31 0 [some (.ref a0), some (.int p0), none] [] (mjTo Z) _
  refine pG_many 2 (pc1 := 2) (L1 := [some (.ref a0), some (.int p0), some (.int 1)]) (st1 := []) (M1 := mjTo Z) rfl ?_
  exact f31_settle_h2_ok mjF a0 p0 1 Z v9 Z9 h
def f32_metresOf (a0 : Nat) (p0 : Int32) (Z : mjZt) : Option Int32 :=
  if mjIs a0 251 7 = true then
  mjBp (f5_at (a0 + 2) p0 Z) fun v3 =>
  some v3
  else none
theorem f32_metresOf_ok {a0 : Nat} {p0 : Int32} {Z : mjZt} {v9 : Int32} (h : f32_metresOf a0 p0 Z = some v9) : pG 32 0 (mjEnt [.ref a0, .int p0] (mjML 32)) [] (mjTo Z) (fun r M1 => r = some (.int v9) ∧ M1 = mjTo Z) := by
  unfold f32_metresOf at h
  show pG 32 0 [some (.ref a0), some (.int p0)] [] (mjTo Z) _
  refine pG_many 1 (pc1 := 1) (L1 := [some (.ref a0), some (.int p0)]) (st1 := [.ref a0]) (M1 := mjTo Z) rfl ?_
  have hk1 : mjIs a0 251 7 = true := by
    by_cases q9 : mjIs a0 251 7 = true
    · exact q9
    · rw [if_neg q9] at h; cases h
  rw [if_pos hk1] at h
  refine pG_getR (ci := 7) (f := 1) (b := a0 + 2) rfl rfl rfl hk1 (mjRc7_1 hk1) ?_
  refine pG_many 1 (pc1 := 5) (L1 := [some (.ref a0), some (.int p0)]) (st1 := [.int p0, .ref (a0 + 2)]) (M1 := mjTo Z) rfl ?_
  cases hq2 : f5_at (a0 + 2) p0 Z with
  | none => rw [hq2] at h; cases h
  | some v3 =>
    rw [hq2, mjBp_some] at h
    refine pG_call (k2 := 5) (As := [.ref (a0 + 2), .int p0]) (rest := []) rfl (by decide) (f5_at_ok hq2) ?_
    rintro r9 M9 ⟨rfl, rfl⟩
    show pG 32 8 [some (.ref a0), some (.int p0)] [.int v3] (mjTo Z) _
    simp only [Option.some.injEq] at h
    subst h
    exact pG_ret (r := some (.int v3)) rfl ⟨rfl, rfl⟩
def f33_metresOutside (a0 : Nat) (p0 : Int32) (Z : mjZt) : Option Int32 :=
  if mjIs a0 251 2 = true then
  some (mjMax (mjMax ((-(Z.1 a0 2)) - p0) (p0 - (Z.1 a0 3))) 0)
  else none
theorem f33_metresOutside_ok {a0 : Nat} {p0 : Int32} {Z : mjZt} {v9 : Int32} (h : f33_metresOutside a0 p0 Z = some v9) : pG 33 0 (mjEnt [.ref a0, .int p0] (mjML 33)) [] (mjTo Z) (fun r M1 => r = some (.int v9) ∧ M1 = mjTo Z) := by
  unfold f33_metresOutside at h
  show pG 33 0 [some (.ref a0), some (.int p0)] [] (mjTo Z) _
  refine pG_many 1 (pc1 := 1) (L1 := [some (.ref a0), some (.int p0)]) (st1 := [.ref a0]) (M1 := mjTo Z) rfl ?_
  have hk1 : mjIs a0 251 2 = true := by
    by_cases q9 : mjIs a0 251 2 = true
    · exact q9
    · rw [if_neg q9] at h; cases h
  rw [if_pos hk1] at h
  refine pG_getI (ci := 2) (f := 2) rfl rfl (Or.inl rfl) hk1 ?_
  refine pG_many 5 (pc1 := 9) (L1 := [some (.ref a0), some (.int p0)]) (st1 := [.ref a0, .int p0, .int ((-(Z.1 a0 2)) - p0)]) (M1 := mjTo Z) rfl ?_
  refine pG_getI (ci := 2) (f := 3) rfl rfl (Or.inl rfl) hk1 ?_
  refine pG_many 1 (pc1 := 13) (L1 := [some (.ref a0), some (.int p0)]) (st1 := [.int (p0 - (Z.1 a0 3)), .int ((-(Z.1 a0 2)) - p0)]) (M1 := mjTo Z) rfl ?_
  refine pG_prim (v := .int (mjMax ((-(Z.1 a0 2)) - p0) (p0 - (Z.1 a0 3)))) rfl (by decide) rfl ?_
  refine pG_many 1 (pc1 := 17) (L1 := [some (.ref a0), some (.int p0)]) (st1 := [.int 0, .int (mjMax ((-(Z.1 a0 2)) - p0) (p0 - (Z.1 a0 3)))]) (M1 := mjTo Z) rfl ?_
  refine pG_prim (v := .int (mjMax (mjMax ((-(Z.1 a0 2)) - p0) (p0 - (Z.1 a0 3))) 0)) rfl (by decide) rfl ?_
  simp only [Option.some.injEq] at h
  subst h
  exact pG_ret (r := some (.int (mjMax (mjMax ((-(Z.1 a0 2)) - p0) (p0 - (Z.1 a0 3))) 0))) rfl ⟨rfl, rfl⟩
def f34_endOf (a0 : Nat) (p0 : Int32) (Z : mjZt) : Option Int32 :=
  if mjIs a0 251 7 = true then
  mjBp (f5_at (a0 + 3) p0 Z) fun v3 =>
  some v3
  else none
theorem f34_endOf_ok {a0 : Nat} {p0 : Int32} {Z : mjZt} {v9 : Int32} (h : f34_endOf a0 p0 Z = some v9) : pG 34 0 (mjEnt [.ref a0, .int p0] (mjML 34)) [] (mjTo Z) (fun r M1 => r = some (.int v9) ∧ M1 = mjTo Z) := by
  unfold f34_endOf at h
  show pG 34 0 [some (.ref a0), some (.int p0)] [] (mjTo Z) _
  refine pG_many 1 (pc1 := 1) (L1 := [some (.ref a0), some (.int p0)]) (st1 := [.ref a0]) (M1 := mjTo Z) rfl ?_
  have hk1 : mjIs a0 251 7 = true := by
    by_cases q9 : mjIs a0 251 7 = true
    · exact q9
    · rw [if_neg q9] at h; cases h
  rw [if_pos hk1] at h
  refine pG_getR (ci := 7) (f := 2) (b := a0 + 3) rfl rfl rfl hk1 (mjRc7_2 hk1) ?_
  refine pG_many 1 (pc1 := 5) (L1 := [some (.ref a0), some (.int p0)]) (st1 := [.int p0, .ref (a0 + 3)]) (M1 := mjTo Z) rfl ?_
  cases hq2 : f5_at (a0 + 3) p0 Z with
  | none => rw [hq2] at h; cases h
  | some v3 =>
    rw [hq2, mjBp_some] at h
    refine pG_call (k2 := 5) (As := [.ref (a0 + 3), .int p0]) (rest := []) rfl (by decide) (f5_at_ok hq2) ?_
    rintro r9 M9 ⟨rfl, rfl⟩
    show pG 34 8 [some (.ref a0), some (.int p0)] [.int v3] (mjTo Z) _
    simp only [Option.some.injEq] at h
    subst h
    exact pG_ret (r := some (.int v3)) rfl ⟨rfl, rfl⟩
def f35_settle_h34 (K : Nat → Int32 → mjZt → Option (Unit × mjZt)) : Nat → Nat → Int32 → Nat → Int32 → mjZt → Option (Unit × mjZt)
  | 0, _, _, _, _, _ => none
  | n + 1, x0, x1, x2, x3, Z =>
    if mjIs x2 251 7 = true then
    if mjCmp .gt x3 (Z.1 x2 6) = true then
      K x0 x1 Z
    else
      if mjIs x0 251 2 = true then
      if mjCmp .ge x3 (Z.1 x0 0) = true then
        K x0 x1 Z
      else
        mjBp (f32_metresOf x2 x3 Z) fun v17 =>
        mjBp (f33_metresOutside x0 v17 Z) fun v20 =>
        mjBp (f6_deed x0 (Z.1 x0 7) Z) fun v23 =>
        mjBp (f34_endOf x2 x3 Z) fun v26 =>
        if mjIs v23 251 0 = true then
        mjBd (f1_tell v23 4 x1 ((-1)) v26 v20 Z) fun _ Z31 =>
        mjLet (zSi Z31 x0 7 ((Z31.1 x0 7) + 1)) fun Z32 =>
        f35_settle_h34 K n x0 x1 x2 (x3 + 1) Z32
        else none
      else none
    else none
theorem f35_settle_h34_ok (K : Nat → Int32 → mjZt → Option (Unit × mjZt)) (hK : ∀ (x0 : Nat) (x1 : Int32) (d2 d3 d4 : Option Value) (Z : mjZt) (v9 : Unit) (Z9 : mjZt), K x0 x1 Z = some (v9, Z9) → pG 35 98 [some (.ref x0), some (.int x1), d2, d3, d4] [] (mjTo Z) (fun r M1 => r = none ∧ M1 = mjTo Z9)) : ∀ (n : Nat) (x0 : Nat) (x1 : Int32) (x2 : Nat) (x3 : Int32) (d4 : Option Value) (Z : mjZt) (v9 : Unit) (Z9 : mjZt), f35_settle_h34 K n x0 x1 x2 x3 Z = some (v9, Z9) → pG 35 34 [some (.ref x0), some (.int x1), some (.ref x2), some (.int x3), d4] [] (mjTo Z) (fun r M1 => r = none ∧ M1 = mjTo Z9)
  | 0, x0, x1, x2, x3, d4, Z, v9, Z9, h => by rw [f35_settle_h34] at h; cases h
  | n + 1, x0, x1, x2, x3, d4, Z, v9, Z9, h => by
      rw [f35_settle_h34] at h
      refine pG_many 2 (pc1 := 36) (L1 := [some (.ref x0), some (.int x1), some (.ref x2), some (.int x3), d4]) (st1 := [.ref x2, .int x3]) (M1 := mjTo Z) rfl ?_
      have hk12 : mjIs x2 251 7 = true := by
        by_cases q9 : mjIs x2 251 7 = true
        · exact q9
        · rw [if_neg q9] at h; cases h
      rw [if_pos hk12] at h
      refine pG_getI (ci := 7) (f := 6) rfl rfl (Or.inl rfl) hk12 ?_
      by_cases hc13 : mjCmp .gt x3 (Z.1 x2 6) = true
      · rw [if_pos hc13] at h
        refine pG_cmt (t := 98) rfl rfl hc13 ?_
        exact hK x0 x1 (some (.ref x2)) (some (.int x3)) d4 Z v9 Z9 h
      · rw [if_neg hc13] at h
        refine pG_cmf (t := 98) rfl rfl hc13 ?_
        refine pG_many 2 (pc1 := 44) (L1 := [some (.ref x0), some (.int x1), some (.ref x2), some (.int x3), d4]) (st1 := [.ref x0, .int x3]) (M1 := mjTo Z) rfl ?_
        have hk14 : mjIs x0 251 2 = true := by
          by_cases q9 : mjIs x0 251 2 = true
          · exact q9
          · rw [if_neg q9] at h; cases h
        rw [if_pos hk14] at h
        refine pG_getI (ci := 2) (f := 0) rfl rfl (Or.inl rfl) hk14 ?_
        by_cases hc15 : mjCmp .ge x3 (Z.1 x0 0) = true
        · rw [if_pos hc15] at h
          refine pG_cmt (t := 98) rfl rfl hc15 ?_
          exact hK x0 x1 (some (.ref x2)) (some (.int x3)) d4 Z v9 Z9 h
        · rw [if_neg hc15] at h
          refine pG_cmf (t := 98) rfl rfl hc15 ?_
          refine pG_many 3 (pc1 := 53) (L1 := [some (.ref x0), some (.int x1), some (.ref x2), some (.int x3), d4]) (st1 := [.int x3, .ref x2, .ref x0]) (M1 := mjTo Z) rfl ?_
          cases hq16 : f32_metresOf x2 x3 Z with
          | none => rw [hq16] at h; cases h
          | some v17 =>
            rw [hq16, mjBp_some] at h
            refine pG_callV (k2 := 32) (As := [.ref x2, .int x3]) (rest := [.ref x0]) rfl rfl rfl rfl rfl (mjRcv_is hk12 (by decide)) (by decide) (f32_metresOf_ok hq16) ?_
            rintro r9 M9 ⟨rfl, rfl⟩
            show pG 35 56 [some (.ref x0), some (.int x1), some (.ref x2), some (.int x3), d4] [.int v17, .ref x0] (mjTo Z) _
            cases hq19 : f33_metresOutside x0 v17 Z with
            | none => rw [hq19] at h; cases h
            | some v20 =>
              rw [hq19, mjBp_some] at h
              refine pG_callV (k2 := 33) (As := [.ref x0, .int v17]) (rest := []) rfl rfl rfl rfl rfl (mjRcv_is hk14 (by decide)) (by decide) (f33_metresOutside_ok hq19) ?_
              rintro r9 M9 ⟨rfl, rfl⟩
              show pG 35 59 [some (.ref x0), some (.int x1), some (.ref x2), some (.int x3), d4] [.int v20] (mjTo Z) _
              refine pG_many 3 (pc1 := 63) (L1 := [some (.ref x0), some (.int x1), some (.ref x2), some (.int x3), some (.int v20)]) (st1 := [.ref x0, .ref x0]) (M1 := mjTo Z) rfl ?_
              refine pG_getI (ci := 2) (f := 7) rfl rfl (Or.inl rfl) hk14 ?_
              cases hq22 : f6_deed x0 (Z.1 x0 7) Z with
              | none => rw [hq22] at h; cases h
              | some v23 =>
                rw [hq22, mjBp_some] at h
                refine pG_callV (k2 := 6) (As := [.ref x0, .int (Z.1 x0 7)]) (rest := []) rfl rfl rfl rfl rfl (mjRcv_is hk14 (by decide)) (by decide) (f6_deed_ok hq22) ?_
                rintro r9 M9 ⟨rfl, rfl⟩
                show pG 35 69 [some (.ref x0), some (.int x1), some (.ref x2), some (.int x3), some (.int v20)] [.ref v23] (mjTo Z) _
                refine pG_many 5 (pc1 := 74) (L1 := [some (.ref x0), some (.int x1), some (.ref x2), some (.int x3), some (.int v20)]) (st1 := [.int x3, .ref x2, .int ((-1)), .int x1, .int 4, .ref v23]) (M1 := mjTo Z) rfl ?_
                cases hq25 : f34_endOf x2 x3 Z with
                | none => rw [hq25] at h; cases h
                | some v26 =>
                  rw [hq25, mjBp_some] at h
                  refine pG_callV (k2 := 34) (As := [.ref x2, .int x3]) (rest := [.int ((-1)), .int x1, .int 4, .ref v23]) rfl rfl rfl rfl rfl (mjRcv_is hk12 (by decide)) (by decide) (f34_endOf_ok hq25) ?_
                  rintro r9 M9 ⟨rfl, rfl⟩
                  show pG 35 77 [some (.ref x0), some (.int x1), some (.ref x2), some (.int x3), some (.int v20)] [.int v26, .int ((-1)), .int x1, .int 4, .ref v23] (mjTo Z) _
                  refine pG_many 1 (pc1 := 79) (L1 := [some (.ref x0), some (.int x1), some (.ref x2), some (.int x3), some (.int v20)]) (st1 := [.int v20, .int v26, .int ((-1)), .int x1, .int 4, .ref v23]) (M1 := mjTo Z) rfl ?_
                  have hk28 : mjIs v23 251 0 = true := by
                    by_cases q9 : mjIs v23 251 0 = true
                    · exact q9
                    · rw [if_neg q9] at h; cases h
                  rw [if_pos hk28] at h
                  cases hq29 : f1_tell v23 4 x1 ((-1)) v26 v20 Z with
                  | none => rw [hq29] at h; cases h
                  | some w =>
                    obtain ⟨v30, Z31⟩ := w
                    rw [hq29, mjBd_some] at h
                    refine pG_callV (k2 := 1) (As := [.ref v23, .int 4, .int x1, .int ((-1)), .int v26, .int v20]) (rest := []) rfl rfl rfl rfl rfl (mjRcv_is hk28 (by decide)) (by decide) (f1_tell_ok hq29) ?_
                    rintro r9 M9 ⟨rfl, rfl⟩
                    show pG 35 82 [some (.ref x0), some (.int x1), some (.ref x2), some (.int x3), some (.int v20)] [] (mjTo Z31) _
                    refine pG_many 2 (pc1 := 84) (L1 := [some (.ref x0), some (.int x1), some (.ref x2), some (.int x3), some (.int v20)]) (st1 := [.ref x0, .ref x0]) (M1 := mjTo Z31) rfl ?_
                    refine pG_getI (ci := 2) (f := 7) rfl rfl (Or.inl rfl) hk14 ?_
                    refine pG_many 2 (pc1 := 89) (L1 := [some (.ref x0), some (.int x1), some (.ref x2), some (.int x3), some (.int v20)]) (st1 := [.int ((Z31.1 x0 7) + 1), .ref x0]) (M1 := mjTo Z31) rfl ?_
                    refine pG_putI (ci := 2) (f := 7) rfl rfl rfl rfl hk14 ?_
                    rw [mjLet] at h
                    generalize zSi Z31 x0 7 ((Z31.1 x0 7) + 1) = Z32 at h ⊢
                    refine pG_many 2 (pc1 := 34) (L1 := [some (.ref x0), some (.int x1), some (.ref x2), some (.int (x3 + 1)), some (.int v20)]) (st1 := []) (M1 := mjTo Z32) rfl ?_
                    exact f35_settle_h34_ok K hK n x0 x1 x2 (x3 + 1) (some (.int v20)) Z32 v9 Z9 h
def f35_settle_h10 : Nat → Nat → Int32 → mjZt → Option (Unit × mjZt)
  | 0, _, _, _ => none
  | n + 1, x0, x1, Z =>
    if mjIs x0 251 2 = true then
    if mjCmp .ge x1 (Z.1 x0 5) = true then
      some ((), Z)
    else
      mjBp (f8_runner x0 x1 Z) fun v6 =>
      if mjIs v6 251 7 = true then
      mjBd (f31_settle v6 (Z.1 x0 1) Z) fun _ Z11 =>
      f35_settle_h34 (fun x0_Z33 x1_Z33 Z33 =>
        f35_settle_h10 n x0_Z33 (x1_Z33 + 1) Z33
        ) mjF x0 x1 v6 1 Z11
      else none
    else none
theorem f35_settle_h10_ok : ∀ (n : Nat) (x0 : Nat) (x1 : Int32) (d2 d3 d4 : Option Value) (Z : mjZt) (v9 : Unit) (Z9 : mjZt), f35_settle_h10 n x0 x1 Z = some (v9, Z9) → pG 35 10 [some (.ref x0), some (.int x1), d2, d3, d4] [] (mjTo Z) (fun r M1 => r = none ∧ M1 = mjTo Z9)
  | 0, x0, x1, d2, d3, d4, Z, v9, Z9, h => by rw [f35_settle_h10] at h; cases h
  | n + 1, x0, x1, d2, d3, d4, Z, v9, Z9, h => by
      rw [f35_settle_h10] at h
      refine pG_many 2 (pc1 := 12) (L1 := [some (.ref x0), some (.int x1), d2, d3, d4]) (st1 := [.ref x0, .int x1]) (M1 := mjTo Z) rfl ?_
      have hk3 : mjIs x0 251 2 = true := by
        by_cases q9 : mjIs x0 251 2 = true
        · exact q9
        · rw [if_neg q9] at h; cases h
      rw [if_pos hk3] at h
      refine pG_getI (ci := 2) (f := 5) rfl rfl (Or.inl rfl) hk3 ?_
      by_cases hc4 : mjCmp .ge x1 (Z.1 x0 5) = true
      · rw [if_pos hc4] at h
        refine pG_cmt (t := 104) rfl rfl hc4 ?_
        simp only [Option.some.injEq, Prod.mk.injEq] at h
        obtain ⟨-, rfl⟩ := h
        exact pG_ret (r := none) rfl ⟨rfl, rfl⟩
      · rw [if_neg hc4] at h
        refine pG_cmf (t := 104) rfl rfl hc4 ?_
        refine pG_many 2 (pc1 := 20) (L1 := [some (.ref x0), some (.int x1), d2, d3, d4]) (st1 := [.int x1, .ref x0]) (M1 := mjTo Z) rfl ?_
        cases hq5 : f8_runner x0 x1 Z with
        | none => rw [hq5] at h; cases h
        | some v6 =>
          rw [hq5, mjBp_some] at h
          refine pG_callV (k2 := 8) (As := [.ref x0, .int x1]) (rest := []) rfl rfl rfl rfl rfl (mjRcv_is hk3 (by decide)) (by decide) (f8_runner_ok hq5) ?_
          rintro r9 M9 ⟨rfl, rfl⟩
          show pG 35 23 [some (.ref x0), some (.int x1), d2, d3, d4] [.ref v6] (mjTo Z) _
          refine pG_many 3 (pc1 := 26) (L1 := [some (.ref x0), some (.int x1), some (.ref v6), d3, d4]) (st1 := [.ref x0, .ref v6]) (M1 := mjTo Z) rfl ?_
          refine pG_getI (ci := 2) (f := 1) rfl rfl (Or.inl rfl) hk3 ?_
          have hk8 : mjIs v6 251 7 = true := by
            by_cases q9 : mjIs v6 251 7 = true
            · exact q9
            · rw [if_neg q9] at h; cases h
          rw [if_pos hk8] at h
          cases hq9 : f31_settle v6 (Z.1 x0 1) Z with
          | none => rw [hq9] at h; cases h
          | some w =>
            obtain ⟨v10, Z11⟩ := w
            rw [hq9, mjBd_some] at h
            refine pG_callV (k2 := 31) (As := [.ref v6, .int (Z.1 x0 1)]) (rest := []) rfl rfl rfl rfl rfl (mjRcv_is hk8 (by decide)) (by decide) (f31_settle_ok hq9) ?_
            rintro r9 M9 ⟨rfl, rfl⟩
            show pG 35 32 [some (.ref x0), some (.int x1), some (.ref v6), d3, d4] [] (mjTo Z11) _
            refine pG_many 2 (pc1 := 34) (L1 := [some (.ref x0), some (.int x1), some (.ref v6), some (.int 1), d4]) (st1 := []) (M1 := mjTo Z11) rfl ?_
            refine f35_settle_h34_ok _ ?_ mjF x0 x1 v6 1 d4 Z11 v9 Z9 h
            clear h
            intro x0_Z33 x1_Z33 d2 d3 d4 Z33 v9 Z9 h
              refine pG_many 2 (pc1 := 10) (L1 := [some (.ref x0_Z33), some (.int (x1_Z33 + 1)), d2, d3, d4]) (st1 := []) (M1 := mjTo Z33) rfl ?_
              exact f35_settle_h10_ok n x0_Z33 (x1_Z33 + 1) d2 d3 d4 Z33 v9 Z9 h
def f35_settle (a0 : Nat) (Z : mjZt) : Option (Unit × mjZt) :=
  if mjIs a0 251 2 = true then
  mjLet (zSi Z a0 7 (Z.1 a0 6)) fun Z2 =>
  f35_settle_h10 mjF a0 0 Z2
  else none
theorem f35_settle_ok {a0 : Nat} {Z : mjZt} {v9 : Unit} {Z9 : mjZt} (h : f35_settle a0 Z = some (v9, Z9)) : pG 35 0 (mjEnt [.ref a0] (mjML 35)) [] (mjTo Z) (fun r M1 => r = none ∧ M1 = mjTo Z9) := by
  unfold f35_settle at h
  show pG 35 0 [some (.ref a0), none, none, none, none] [] (mjTo Z) _
  refine pG_many 2 (pc1 := 2) (L1 := [some (.ref a0), none, none, none, none]) (st1 := [.ref a0, .ref a0]) (M1 := mjTo Z) rfl ?_
  have hk1 : mjIs a0 251 2 = true := by
    by_cases q9 : mjIs a0 251 2 = true
    · exact q9
    · rw [if_neg q9] at h; cases h
  rw [if_pos hk1] at h
  refine pG_getI (ci := 2) (f := 6) rfl rfl (Or.inl rfl) hk1 ?_
  refine pG_putI (ci := 2) (f := 7) rfl rfl rfl rfl hk1 ?_
  rw [mjLet] at h
  generalize zSi Z a0 7 (Z.1 a0 6) = Z2 at h ⊢
  refine pG_many 2 (pc1 := 10) (L1 := [some (.ref a0), some (.int 0), none, none, none]) (st1 := []) (M1 := mjTo Z2) rfl ?_
  exact f35_settle_h10_ok mjF a0 0 none none none Z2 v9 Z9 h
def f36_boxFrom (a0 : Nat) (p0 : Int32) (Z : mjZt) : Option Int32 :=
  if mjIs a0 251 2 = true then
  some (((p0 * (Z.1 a0 1)) - (Z.1 a0 2)) * 10)
  else none
theorem f36_boxFrom_ok {a0 : Nat} {p0 : Int32} {Z : mjZt} {v9 : Int32} (h : f36_boxFrom a0 p0 Z = some v9) : pG 36 0 (mjEnt [.ref a0, .int p0] (mjML 36)) [] (mjTo Z) (fun r M1 => r = some (.int v9) ∧ M1 = mjTo Z) := by
  unfold f36_boxFrom at h
  show pG 36 0 [some (.ref a0), some (.int p0)] [] (mjTo Z) _
  refine pG_many 2 (pc1 := 2) (L1 := [some (.ref a0), some (.int p0)]) (st1 := [.ref a0, .int p0]) (M1 := mjTo Z) rfl ?_
  have hk1 : mjIs a0 251 2 = true := by
    by_cases q9 : mjIs a0 251 2 = true
    · exact q9
    · rw [if_neg q9] at h; cases h
  rw [if_pos hk1] at h
  refine pG_getI (ci := 2) (f := 1) rfl rfl (Or.inl rfl) hk1 ?_
  refine pG_many 2 (pc1 := 7) (L1 := [some (.ref a0), some (.int p0)]) (st1 := [.ref a0, .int (p0 * (Z.1 a0 1))]) (M1 := mjTo Z) rfl ?_
  refine pG_getI (ci := 2) (f := 2) rfl rfl (Or.inl rfl) hk1 ?_
  refine pG_many 3 (pc1 := 14) (L1 := [some (.ref a0), some (.int p0)]) (st1 := [.int (((p0 * (Z.1 a0 1)) - (Z.1 a0 2)) * 10)]) (M1 := mjTo Z) rfl ?_
  simp only [Option.some.injEq] at h
  subst h
  exact pG_ret (r := some (.int (((p0 * (Z.1 a0 1)) - (Z.1 a0 2)) * 10))) rfl ⟨rfl, rfl⟩
def f37_boxTo (a0 : Nat) (p0 : Int32) (Z : mjZt) : Option Int32 :=
  if mjIs a0 251 2 = true then
  some (((p0 * (Z.1 a0 1)) + (Z.1 a0 3)) * 10)
  else none
theorem f37_boxTo_ok {a0 : Nat} {p0 : Int32} {Z : mjZt} {v9 : Int32} (h : f37_boxTo a0 p0 Z = some v9) : pG 37 0 (mjEnt [.ref a0, .int p0] (mjML 37)) [] (mjTo Z) (fun r M1 => r = some (.int v9) ∧ M1 = mjTo Z) := by
  unfold f37_boxTo at h
  show pG 37 0 [some (.ref a0), some (.int p0)] [] (mjTo Z) _
  refine pG_many 2 (pc1 := 2) (L1 := [some (.ref a0), some (.int p0)]) (st1 := [.ref a0, .int p0]) (M1 := mjTo Z) rfl ?_
  have hk1 : mjIs a0 251 2 = true := by
    by_cases q9 : mjIs a0 251 2 = true
    · exact q9
    · rw [if_neg q9] at h; cases h
  rw [if_pos hk1] at h
  refine pG_getI (ci := 2) (f := 1) rfl rfl (Or.inl rfl) hk1 ?_
  refine pG_many 2 (pc1 := 7) (L1 := [some (.ref a0), some (.int p0)]) (st1 := [.ref a0, .int (p0 * (Z.1 a0 1))]) (M1 := mjTo Z) rfl ?_
  refine pG_getI (ci := 2) (f := 3) rfl rfl (Or.inl rfl) hk1 ?_
  refine pG_many 3 (pc1 := 14) (L1 := [some (.ref a0), some (.int p0)]) (st1 := [.int (((p0 * (Z.1 a0 1)) + (Z.1 a0 3)) * 10)]) (M1 := mjTo Z) rfl ?_
  simp only [Option.some.injEq] at h
  subst h
  exact pG_ret (r := some (.int (((p0 * (Z.1 a0 1)) + (Z.1 a0 3)) * 10))) rfl ⟨rfl, rfl⟩
def f38_isInABox_h2 : Nat → Nat → Int32 → Int32 → mjZt → Option Int32
  | 0, _, _, _, _ => none
  | n + 1, x0, x1, x2, Z =>
    if mjIs x0 251 2 = true then
    if mjCmp .ge x2 (Z.1 x0 0) = true then
      some 0
    else
      mjBp (f36_boxFrom x0 x2 Z) fun v4 =>
      if mjCmp .lt x1 v4 = true then
        f38_isInABox_h2 n x0 x1 (x2 + 1) Z
      else
        mjBp (f37_boxTo x0 x2 Z) fun v8 =>
        if mjCmp .gt x1 v8 = true then
          f38_isInABox_h2 n x0 x1 (x2 + 1) Z
        else
          some 1
    else none
theorem f38_isInABox_h2_ok : ∀ (n : Nat) (x0 : Nat) (x1 : Int32) (x2 : Int32) (Z : mjZt) (v9 : Int32), f38_isInABox_h2 n x0 x1 x2 Z = some v9 → pG 38 2 [some (.ref x0), some (.int x1), some (.int x2)] [] (mjTo Z) (fun r M1 => r = some (.int v9) ∧ M1 = mjTo Z)
  | 0, x0, x1, x2, Z, v9, h => by rw [f38_isInABox_h2] at h; cases h
  | n + 1, x0, x1, x2, Z, v9, h => by
      rw [f38_isInABox_h2] at h
      refine pG_many 2 (pc1 := 4) (L1 := [some (.ref x0), some (.int x1), some (.int x2)]) (st1 := [.ref x0, .int x2]) (M1 := mjTo Z) rfl ?_
      have hk1 : mjIs x0 251 2 = true := by
        by_cases q9 : mjIs x0 251 2 = true
        · exact q9
        · rw [if_neg q9] at h; cases h
      rw [if_pos hk1] at h
      refine pG_getI (ci := 2) (f := 0) rfl rfl (Or.inl rfl) hk1 ?_
      by_cases hc2 : mjCmp .ge x2 (Z.1 x0 0) = true
      · rw [if_pos hc2] at h
        refine pG_cmt (t := 36) rfl rfl hc2 ?_
        refine pG_many 1 (pc1 := 37) (L1 := [some (.ref x0), some (.int x1), some (.int x2)]) (st1 := [.int 0]) (M1 := mjTo Z) rfl ?_
        simp only [Option.some.injEq] at h
        subst h
        exact pG_ret (r := some (.int 0)) rfl ⟨rfl, rfl⟩
      · rw [if_neg hc2] at h
        refine pG_cmf (t := 36) rfl rfl hc2 ?_
        refine pG_many 3 (pc1 := 13) (L1 := [some (.ref x0), some (.int x1), some (.int x2)]) (st1 := [.int x2, .ref x0, .int x1]) (M1 := mjTo Z) rfl ?_
        cases hq3 : f36_boxFrom x0 x2 Z with
        | none => rw [hq3] at h; cases h
        | some v4 =>
          rw [hq3, mjBp_some] at h
          refine pG_callV (k2 := 36) (As := [.ref x0, .int x2]) (rest := [.int x1]) rfl rfl rfl rfl rfl (mjRcv_is hk1 (by decide)) (by decide) (f36_boxFrom_ok hq3) ?_
          rintro r9 M9 ⟨rfl, rfl⟩
          show pG 38 16 [some (.ref x0), some (.int x1), some (.int x2)] [.int v4, .int x1] (mjTo Z) _
          by_cases hc6 : mjCmp .lt x1 v4 = true
          · rw [if_pos hc6] at h
            refine pG_cmt (t := 30) rfl rfl hc6 ?_
            refine pG_many 2 (pc1 := 2) (L1 := [some (.ref x0), some (.int x1), some (.int (x2 + 1))]) (st1 := []) (M1 := mjTo Z) rfl ?_
            exact f38_isInABox_h2_ok n x0 x1 (x2 + 1) Z v9 h
          · rw [if_neg hc6] at h
            refine pG_cmf (t := 30) rfl rfl hc6 ?_
            refine pG_many 3 (pc1 := 22) (L1 := [some (.ref x0), some (.int x1), some (.int x2)]) (st1 := [.int x2, .ref x0, .int x1]) (M1 := mjTo Z) rfl ?_
            cases hq7 : f37_boxTo x0 x2 Z with
            | none => rw [hq7] at h; cases h
            | some v8 =>
              rw [hq7, mjBp_some] at h
              refine pG_callV (k2 := 37) (As := [.ref x0, .int x2]) (rest := [.int x1]) rfl rfl rfl rfl rfl (mjRcv_is hk1 (by decide)) (by decide) (f37_boxTo_ok hq7) ?_
              rintro r9 M9 ⟨rfl, rfl⟩
              show pG 38 25 [some (.ref x0), some (.int x1), some (.int x2)] [.int v8, .int x1] (mjTo Z) _
              by_cases hc10 : mjCmp .gt x1 v8 = true
              · rw [if_pos hc10] at h
                refine pG_cmt (t := 30) rfl rfl hc10 ?_
                refine pG_many 2 (pc1 := 2) (L1 := [some (.ref x0), some (.int x1), some (.int (x2 + 1))]) (st1 := []) (M1 := mjTo Z) rfl ?_
                exact f38_isInABox_h2_ok n x0 x1 (x2 + 1) Z v9 h
              · rw [if_neg hc10] at h
                refine pG_cmf (t := 30) rfl rfl hc10 ?_
                refine pG_many 1 (pc1 := 29) (L1 := [some (.ref x0), some (.int x1), some (.int x2)]) (st1 := [.int 1]) (M1 := mjTo Z) rfl ?_
                simp only [Option.some.injEq] at h
                subst h
                exact pG_ret (r := some (.int 1)) rfl ⟨rfl, rfl⟩
def f38_isInABox (a0 : Nat) (p0 : Int32) (Z : mjZt) : Option Int32 :=
  f38_isInABox_h2 mjF a0 p0 1 Z
theorem f38_isInABox_ok {a0 : Nat} {p0 : Int32} {Z : mjZt} {v9 : Int32} (h : f38_isInABox a0 p0 Z = some v9) : pG 38 0 (mjEnt [.ref a0, .int p0] (mjML 38)) [] (mjTo Z) (fun r M1 => r = some (.int v9) ∧ M1 = mjTo Z) := by
  unfold f38_isInABox at h
  show pG 38 0 [some (.ref a0), some (.int p0), none] [] (mjTo Z) _
  refine pG_many 2 (pc1 := 2) (L1 := [some (.ref a0), some (.int p0), some (.int 1)]) (st1 := []) (M1 := mjTo Z) rfl ?_
  exact f38_isInABox_h2_ok mjF a0 p0 1 Z v9 h
def f39_passOf (a0 : Nat) (p0 : Int32) (Z : mjZt) : Option Int32 :=
  if mjIs a0 251 7 = true then
  mjBp (f5_at (a0 + 4) p0 Z) fun v3 =>
  some v3
  else none
theorem f39_passOf_ok {a0 : Nat} {p0 : Int32} {Z : mjZt} {v9 : Int32} (h : f39_passOf a0 p0 Z = some v9) : pG 39 0 (mjEnt [.ref a0, .int p0] (mjML 39)) [] (mjTo Z) (fun r M1 => r = some (.int v9) ∧ M1 = mjTo Z) := by
  unfold f39_passOf at h
  show pG 39 0 [some (.ref a0), some (.int p0)] [] (mjTo Z) _
  refine pG_many 1 (pc1 := 1) (L1 := [some (.ref a0), some (.int p0)]) (st1 := [.ref a0]) (M1 := mjTo Z) rfl ?_
  have hk1 : mjIs a0 251 7 = true := by
    by_cases q9 : mjIs a0 251 7 = true
    · exact q9
    · rw [if_neg q9] at h; cases h
  rw [if_pos hk1] at h
  refine pG_getR (ci := 7) (f := 3) (b := a0 + 4) rfl rfl rfl hk1 (mjRc7_3 hk1) ?_
  refine pG_many 1 (pc1 := 5) (L1 := [some (.ref a0), some (.int p0)]) (st1 := [.int p0, .ref (a0 + 4)]) (M1 := mjTo Z) rfl ?_
  cases hq2 : f5_at (a0 + 4) p0 Z with
  | none => rw [hq2] at h; cases h
  | some v3 =>
    rw [hq2, mjBp_some] at h
    refine pG_call (k2 := 5) (As := [.ref (a0 + 4), .int p0]) (rest := []) rfl (by decide) (f5_at_ok hq2) ?_
    rintro r9 M9 ⟨rfl, rfl⟩
    show pG 39 8 [some (.ref a0), some (.int p0)] [.int v3] (mjTo Z) _
    simp only [Option.some.injEq] at h
    subst h
    exact pG_ret (r := some (.int v3)) rfl ⟨rfl, rfl⟩
def f40_runInBox (a0 : Nat) (p0 : Nat) (p1 : Int32) (p2 : Int32) (Z : mjZt) : Option Int32 :=
  if mjCmp .lt p2 1 = true then
    some 0
  else
    if mjIs a0 251 2 = true then
    if mjCmp .lt p2 (Z.1 a0 0) = true then
      if mjIs p0 251 7 = true then
      mjBp (f39_passOf p0 (p1 - 1) Z) fun v6 =>
      mjBp (f36_boxFrom a0 p2 Z) fun v9 =>
      mjBp (f39_passOf p0 p1 Z) fun v12 =>
      mjBp (f37_boxTo a0 p2 Z) fun v15 =>
      some (mjMax ((mjMin v12 v15) - (mjMax v6 v9)) 0)
      else none
    else
      some 0
    else none
theorem f40_runInBox_ok {a0 : Nat} {p0 : Nat} {p1 : Int32} {p2 : Int32} {Z : mjZt} {v9 : Int32} (h : f40_runInBox a0 p0 p1 p2 Z = some v9) : pG 40 0 (mjEnt [.ref a0, .ref p0, .int p1, .int p2] (mjML 40)) [] (mjTo Z) (fun r M1 => r = some (.int v9) ∧ M1 = mjTo Z) := by
  unfold f40_runInBox at h
  show pG 40 0 [some (.ref a0), some (.ref p0), some (.int p1), some (.int p2), none, none] [] (mjTo Z) _
  refine pG_many 2 (pc1 := 2) (L1 := [some (.ref a0), some (.ref p0), some (.int p1), some (.int p2), none, none]) (st1 := [.int 1, .int p2]) (M1 := mjTo Z) rfl ?_
  by_cases hc1 : mjCmp .lt p2 1 = true
  · rw [if_pos hc1] at h
    refine pG_cmt (t := 13) rfl rfl hc1 ?_
    refine pG_many 1 (pc1 := 14) (L1 := [some (.ref a0), some (.ref p0), some (.int p1), some (.int p2), none, none]) (st1 := [.int 0]) (M1 := mjTo Z) rfl ?_
    simp only [Option.some.injEq] at h
    subst h
    exact pG_ret (r := some (.int 0)) rfl ⟨rfl, rfl⟩
  · rw [if_neg hc1] at h
    refine pG_cmf (t := 13) rfl rfl hc1 ?_
    refine pG_many 2 (pc1 := 7) (L1 := [some (.ref a0), some (.ref p0), some (.int p1), some (.int p2), none, none]) (st1 := [.ref a0, .int p2]) (M1 := mjTo Z) rfl ?_
    have hk2 : mjIs a0 251 2 = true := by
      by_cases q9 : mjIs a0 251 2 = true
      · exact q9
      · rw [if_neg q9] at h; cases h
    rw [if_pos hk2] at h
    refine pG_getI (ci := 2) (f := 0) rfl rfl (Or.inl rfl) hk2 ?_
    by_cases hc3 : mjCmp .lt p2 (Z.1 a0 0) = true
    · rw [if_pos hc3] at h
      refine pG_cmt (t := 15) rfl rfl hc3 ?_
      refine pG_many 4 (pc1 := 19) (L1 := [some (.ref a0), some (.ref p0), some (.int p1), some (.int p2), none, none]) (st1 := [.int (p1 - 1), .ref p0]) (M1 := mjTo Z) rfl ?_
      have hk4 : mjIs p0 251 7 = true := by
        by_cases q9 : mjIs p0 251 7 = true
        · exact q9
        · rw [if_neg q9] at h; cases h
      rw [if_pos hk4] at h
      cases hq5 : f39_passOf p0 (p1 - 1) Z with
      | none => rw [hq5] at h; cases h
      | some v6 =>
        rw [hq5, mjBp_some] at h
        refine pG_callV (k2 := 39) (As := [.ref p0, .int (p1 - 1)]) (rest := []) rfl rfl rfl rfl rfl (mjRcv_is hk4 (by decide)) (by decide) (f39_passOf_ok hq5) ?_
        rintro r9 M9 ⟨rfl, rfl⟩
        show pG 40 22 [some (.ref a0), some (.ref p0), some (.int p1), some (.int p2), none, none] [.int v6] (mjTo Z) _
        refine pG_many 2 (pc1 := 24) (L1 := [some (.ref a0), some (.ref p0), some (.int p1), some (.int p2), none, none]) (st1 := [.int p2, .ref a0, .int v6]) (M1 := mjTo Z) rfl ?_
        cases hq8 : f36_boxFrom a0 p2 Z with
        | none => rw [hq8] at h; cases h
        | some v9 =>
          rw [hq8, mjBp_some] at h
          refine pG_callV (k2 := 36) (As := [.ref a0, .int p2]) (rest := [.int v6]) rfl rfl rfl rfl rfl (mjRcv_is hk2 (by decide)) (by decide) (f36_boxFrom_ok hq8) ?_
          rintro r9 M9 ⟨rfl, rfl⟩
          show pG 40 27 [some (.ref a0), some (.ref p0), some (.int p1), some (.int p2), none, none] [.int v9, .int v6] (mjTo Z) _
          refine pG_prim (v := .int (mjMax v6 v9)) rfl (by decide) rfl ?_
          refine pG_many 3 (pc1 := 34) (L1 := [some (.ref a0), some (.ref p0), some (.int p1), some (.int p2), some (.int (mjMax v6 v9)), none]) (st1 := [.int p1, .ref p0]) (M1 := mjTo Z) rfl ?_
          cases hq11 : f39_passOf p0 p1 Z with
          | none => rw [hq11] at h; cases h
          | some v12 =>
            rw [hq11, mjBp_some] at h
            refine pG_callV (k2 := 39) (As := [.ref p0, .int p1]) (rest := []) rfl rfl rfl rfl rfl (mjRcv_is hk4 (by decide)) (by decide) (f39_passOf_ok hq11) ?_
            rintro r9 M9 ⟨rfl, rfl⟩
            show pG 40 37 [some (.ref a0), some (.ref p0), some (.int p1), some (.int p2), some (.int (mjMax v6 v9)), none] [.int v12] (mjTo Z) _
            refine pG_many 2 (pc1 := 39) (L1 := [some (.ref a0), some (.ref p0), some (.int p1), some (.int p2), some (.int (mjMax v6 v9)), none]) (st1 := [.int p2, .ref a0, .int v12]) (M1 := mjTo Z) rfl ?_
            cases hq14 : f37_boxTo a0 p2 Z with
            | none => rw [hq14] at h; cases h
            | some v15 =>
              rw [hq14, mjBp_some] at h
              refine pG_callV (k2 := 37) (As := [.ref a0, .int p2]) (rest := [.int v12]) rfl rfl rfl rfl rfl (mjRcv_is hk2 (by decide)) (by decide) (f37_boxTo_ok hq14) ?_
              rintro r9 M9 ⟨rfl, rfl⟩
              show pG 40 42 [some (.ref a0), some (.ref p0), some (.int p1), some (.int p2), some (.int (mjMax v6 v9)), none] [.int v15, .int v12] (mjTo Z) _
              refine pG_prim (v := .int (mjMin v12 v15)) rfl (by decide) rfl ?_
              refine pG_many 5 (pc1 := 53) (L1 := [some (.ref a0), some (.ref p0), some (.int p1), some (.int p2), some (.int (mjMax v6 v9)), some (.int (mjMin v12 v15))]) (st1 := [.int 0, .int ((mjMin v12 v15) - (mjMax v6 v9))]) (M1 := mjTo Z) rfl ?_
              refine pG_prim (v := .int (mjMax ((mjMin v12 v15) - (mjMax v6 v9)) 0)) rfl (by decide) rfl ?_
              simp only [Option.some.injEq] at h
              subst h
              exact pG_ret (r := some (.int (mjMax ((mjMin v12 v15) - (mjMax v6 v9)) 0))) rfl ⟨rfl, rfl⟩
    · rw [if_neg hc3] at h
      refine pG_cmf (t := 15) rfl rfl hc3 ?_
      refine pG_many 1 (pc1 := 14) (L1 := [some (.ref a0), some (.ref p0), some (.int p1), some (.int p2), none, none]) (st1 := [.int 0]) (M1 := mjTo Z) rfl ?_
      simp only [Option.some.injEq] at h
      subst h
      exact pG_ret (r := some (.int 0)) rfl ⟨rfl, rfl⟩
