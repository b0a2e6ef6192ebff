def f1_tell (a0 : Nat) (p0 : Int32) (p1 : Int32) (p2 : Int32) (p3 : Int32) (p4 : Int32) (Z : mjZt) : Option (Unit × mjZt) :=
  if mjIs a0 211 0 = true then
  mjLet (zSi Z a0 0 p0) fun Z102 =>
  mjLet (zSi Z102 a0 1 p1) fun Z103 =>
  mjLet (zSi Z103 a0 2 p2) fun Z104 =>
  mjLet (zSi Z104 a0 3 p3) fun Z105 =>
  mjLet (zSi Z105 a0 4 p4) fun Z106 =>
  some ((), Z106)
  else none
theorem f1_tell_ok {a0 : Nat} {p0 : Int32} {p1 : Int32} {p2 : Int32} {p3 : Int32} {p4 : Int32} {Z : mjZt} {v9 : Unit} {Z9 : mjZt} (h : f1_tell a0 p0 p1 p2 p3 p4 Z = some (v9, Z9)) : pG 1 0 (mjEnt [.ref a0, .int p0, .int p1, .int p2, .int p3, .int p4] (mjML 1)) [] (mjTo Z) (fun r M1 => r = none ∧ M1 = mjTo Z9) := by
  unfold f1_tell at h
  show pG 1 0 [some (.ref a0), some (.int p0), some (.int p1), some (.int p2), some (.int p3), some (.int p4)] [] (mjTo Z) _
  refine pG_many 2 (pc1 := 2) (L1 := [some (.ref a0), some (.int p0), some (.int p1), some (.int p2), some (.int p3), some (.int p4)]) (st1 := [.int p0, .ref a0]) (M1 := mjTo Z) (fun _ _ => rfl) ?_
  have hk101 : mjIs a0 211 0 = true := by
    by_cases q9 : mjIs a0 211 0 = true
    · exact q9
    · rw [if_neg q9] at h; cases h
  rw [if_pos hk101] at h
  refine pG_putI (ci := 0) (f := 0) rfl rfl rfl rfl hk101 (by decide) ?_
  rw [mjLet] at h
  generalize zSi Z a0 0 p0 = Z102 at h ⊢
  refine pG_many 2 (pc1 := 7) (L1 := [some (.ref a0), some (.int p0), some (.int p1), some (.int p2), some (.int p3), some (.int p4)]) (st1 := [.int p1, .ref a0]) (M1 := mjTo Z102) (fun _ _ => rfl) ?_
  refine pG_putI (ci := 0) (f := 1) rfl rfl rfl rfl hk101 (by decide) ?_
  rw [mjLet] at h
  generalize zSi Z102 a0 1 p1 = Z103 at h ⊢
  refine pG_many 2 (pc1 := 12) (L1 := [some (.ref a0), some (.int p0), some (.int p1), some (.int p2), some (.int p3), some (.int p4)]) (st1 := [.int p2, .ref a0]) (M1 := mjTo Z103) (fun _ _ => rfl) ?_
  refine pG_putI (ci := 0) (f := 2) rfl rfl rfl rfl hk101 (by decide) ?_
  rw [mjLet] at h
  generalize zSi Z103 a0 2 p2 = Z104 at h ⊢
  refine pG_many 2 (pc1 := 18) (L1 := [some (.ref a0), some (.int p0), some (.int p1), some (.int p2), some (.int p3), some (.int p4)]) (st1 := [.int p3, .ref a0]) (M1 := mjTo Z104) (fun _ _ => rfl) ?_
  refine pG_putI (ci := 0) (f := 3) rfl rfl rfl rfl hk101 (by decide) ?_
  rw [mjLet] at h
  generalize zSi Z104 a0 3 p3 = Z105 at h ⊢
  refine pG_many 2 (pc1 := 24) (L1 := [some (.ref a0), some (.int p0), some (.int p1), some (.int p2), some (.int p3), some (.int p4)]) (st1 := [.int p4, .ref a0]) (M1 := mjTo Z105) (fun _ _ => rfl) ?_
  refine pG_putI (ci := 0) (f := 4) rfl rfl rfl rfl hk101 (by decide) ?_
  rw [mjLet] at h
  generalize zSi Z105 a0 4 p4 = Z106 at h ⊢
  simp only [Option.some.injEq, Prod.mk.injEq] at h
  obtain ⟨-, rfl⟩ := h
  exact pG_ret (r := none) rfl ⟨rfl, rfl⟩
def f3_forget  (Z : mjZt) : Option (Unit × mjZt) :=
  mjLet (zSi Z 209 2 0) fun Z101 =>
  some ((), Z101)
theorem f3_forget_ok  {Z : mjZt} {v9 : Unit} {Z9 : mjZt} (h : f3_forget  Z = some (v9, Z9)) : pG 3 0 (mjEnt [.ref 209] (mjML 3)) [] (mjTo Z) (fun r M1 => r = none ∧ M1 = mjTo Z9) := by
  unfold f3_forget at h
  show pG 3 0 [some (.ref 209)] [] (mjTo Z) _
  refine pG_many 2 (pc1 := 2) (L1 := [some (.ref 209)]) (st1 := [.int 0, .ref 209]) (M1 := mjTo Z) (fun _ _ => rfl) ?_
  refine pG_putI (ci := 1) (f := 2) rfl rfl rfl rfl (by rfl) (by decide) ?_
  rw [mjLet] at h
  generalize zSi Z 209 2 0 = Z101 at h ⊢
  simp only [Option.some.injEq, Prod.mk.injEq] at h
  obtain ⟨-, rfl⟩ := h
  exact pG_ret (r := none) rfl ⟨rfl, rfl⟩
def f4_keep_j97 (s1 : Int32) (Z : mjZt) : Option (Unit × mjZt) :=
  mjLet (zSi Z 209 1 s1) fun Z114 =>
  mjLet (zSi Z114 209 2 (mjMin ((Z114.1 209 2) + 1) 10)) fun Z115 =>
  some ((), Z115)
theorem f4_keep_j97_ok (s1 : Int32) (d1 d2 d3 d4 d5 d6 : Option Value) (Z : mjZt) (v9 : Unit) (Z9 : mjZt) (h : f4_keep_j97 s1 Z = some (v9, Z9)) : pG 4 97 [some (.ref 209), d1, d2, d3, d4, d5, d6] [.int s1, .ref 209] (mjTo Z) (fun r M1 => r = none ∧ M1 = mjTo Z9) := by
  unfold f4_keep_j97 at h
  refine pG_putI (ci := 1) (f := 1) rfl rfl rfl rfl (by rfl) (by decide) ?_
  rw [mjLet] at h
  generalize zSi Z 209 1 s1 = Z114 at h ⊢
  refine pG_many 2 (pc1 := 102) (L1 := [some (.ref 209), d1, d2, d3, d4, d5, d6]) (st1 := [.ref 209, .ref 209]) (M1 := mjTo Z114) (fun _ _ => rfl) ?_
  refine pG_getI (ci := 1) (f := 2) rfl rfl (Or.inl rfl) (by rfl) (by decide) ?_
  refine pG_many 3 (pc1 := 109) (L1 := [some (.ref 209), d1, d2, d3, d4, d5, d6]) (st1 := [.int 10, .int ((Z114.1 209 2) + 1), .ref 209]) (M1 := mjTo Z114) (fun _ _ => rfl) ?_
  refine pG_prim (v := .int (mjMin ((Z114.1 209 2) + 1) 10)) (fun _ _ => rfl) (by decide) rfl ?_
  refine pG_putI (ci := 1) (f := 2) rfl rfl rfl rfl (by rfl) (by decide) ?_
  rw [mjLet] at h
  generalize zSi Z114 209 2 (mjMin ((Z114.1 209 2) + 1) 10) = Z115 at h ⊢
  simp only [Option.some.injEq, Prod.mk.injEq] at h
  obtain ⟨-, rfl⟩ := h
  exact pG_ret (r := none) rfl ⟨rfl, rfl⟩
def f4_keep (p0 : Int32) (p1 : Int32) (p2 : Int32) (p3 : Int32) (p4 : Int32) (Z : mjZt) : Option (Unit × mjZt) :=
  if mjCmp .lt ((Z.1 209 1) * 5) 0 = true then
    some ((), Z)
  else
    if mjCmp .gt (((Z.1 209 1) * 5) + 5) 50 = true then
      some ((), Z)
    else
      if mjIn ((Z.1 209 1) * 5) 50 = true then
      mjLet (zSi Z 210 (mjIx ((Z.1 209 1) * 5)) p0) fun Z104 =>
      if mjIn (((Z.1 209 1) * 5) + 1) 50 = true then
      mjLet (zSi Z104 210 (mjIx (((Z.1 209 1) * 5) + 1)) p1) fun Z106 =>
      if mjIn (((Z.1 209 1) * 5) + 2) 50 = true then
      mjLet (zSi Z106 210 (mjIx (((Z.1 209 1) * 5) + 2)) p2) fun Z108 =>
      if mjIn (((Z.1 209 1) * 5) + 3) 50 = true then
      mjLet (zSi Z108 210 (mjIx (((Z.1 209 1) * 5) + 3)) p3) fun Z110 =>
      if mjIn (((Z.1 209 1) * 5) + 4) 50 = true then
      mjLet (zSi Z110 210 (mjIx (((Z.1 209 1) * 5) + 4)) p4) fun Z112 =>
      if mjCmp .ge ((Z112.1 209 1) + 1) 10 = true then
        f4_keep_j97 0 Z112
      else
        f4_keep_j97 ((Z112.1 209 1) + 1) Z112
      else none
      else none
      else none
      else none
      else none
theorem f4_keep_ok {p0 : Int32} {p1 : Int32} {p2 : Int32} {p3 : Int32} {p4 : Int32} {Z : mjZt} {v9 : Unit} {Z9 : mjZt} (h : f4_keep p0 p1 p2 p3 p4 Z = some (v9, Z9)) : pG 4 0 (mjEnt [.ref 209, .int p0, .int p1, .int p2, .int p3, .int p4] (mjML 4)) [] (mjTo Z) (fun r M1 => r = none ∧ M1 = mjTo Z9) := by
  unfold f4_keep at h
  show pG 4 0 [some (.ref 209), some (.int p0), some (.int p1), some (.int p2), some (.int p3), some (.int p4), none] [] (mjTo Z) _
  refine pG_many 1 (pc1 := 1) (L1 := [some (.ref 209), some (.int p0), some (.int p1), some (.int p2), some (.int p3), some (.int p4), none]) (st1 := [.ref 209]) (M1 := mjTo Z) (fun _ _ => rfl) ?_
  refine pG_getI (ci := 1) (f := 1) rfl rfl (Or.inl rfl) (by rfl) (by decide) ?_
  refine pG_many 4 (pc1 := 10) (L1 := [some (.ref 209), some (.int p0), some (.int p1), some (.int p2), some (.int p3), some (.int p4), some (.int ((Z.1 209 1) * 5))]) (st1 := [.int ((Z.1 209 1) * 5)]) (M1 := mjTo Z) (fun _ _ => rfl) ?_
  by_cases hc101 : mjCmp .lt ((Z.1 209 1) * 5) 0 = true
  · rw [if_pos hc101] at h
    refine pG_ift (t := 115) rfl rfl hc101 ?_
    simp only [Option.some.injEq, Prod.mk.injEq] at h
    obtain ⟨-, rfl⟩ := h
    exact pG_ret (r := none) rfl ⟨rfl, rfl⟩
  · rw [if_neg hc101] at h
    refine pG_iff (t := 115) rfl rfl hc101 ?_
    refine pG_many 4 (pc1 := 18) (L1 := [some (.ref 209), some (.int p0), some (.int p1), some (.int p2), some (.int p3), some (.int p4), some (.int ((Z.1 209 1) * 5))]) (st1 := [.ref 209, .int (((Z.1 209 1) * 5) + 5)]) (M1 := mjTo Z) (fun _ _ => rfl) ?_
    refine pG_getR (ci := 1) (f := 0) (b := 210) rfl rfl rfl (by rfl) (by decide) rfl ?_
    refine pG_len rfl (by decide) (by decide) (by decide) ?_
    by_cases hc102 : mjCmp .gt (((Z.1 209 1) * 5) + 5) 50 = true
    · rw [if_pos hc102] at h
      refine pG_cmt (t := 115) rfl rfl hc102 ?_
      simp only [Option.some.injEq, Prod.mk.injEq] at h
      obtain ⟨-, rfl⟩ := h
      exact pG_ret (r := none) rfl ⟨rfl, rfl⟩
    · rw [if_neg hc102] at h
      refine pG_cmf (t := 115) rfl rfl hc102 ?_
      refine pG_many 1 (pc1 := 26) (L1 := [some (.ref 209), some (.int p0), some (.int p1), some (.int p2), some (.int p3), some (.int p4), some (.int ((Z.1 209 1) * 5))]) (st1 := [.ref 209]) (M1 := mjTo Z) (fun _ _ => rfl) ?_
      refine pG_getR (ci := 1) (f := 0) (b := 210) rfl rfl rfl (by rfl) (by decide) rfl ?_
      refine pG_many 2 (pc1 := 32) (L1 := [some (.ref 209), some (.int p0), some (.int p1), some (.int p2), some (.int p3), some (.int p4), some (.int ((Z.1 209 1) * 5))]) (st1 := [.int p0, .int ((Z.1 209 1) * 5), .ref 210]) (M1 := mjTo Z) (fun _ _ => rfl) ?_
      have hk103 : mjIn ((Z.1 209 1) * 5) 50 = true := by
        by_cases q9 : mjIn ((Z.1 209 1) * 5) 50 = true
        · exact q9
        · rw [if_neg q9] at h; cases h
      rw [if_pos hk103] at h
      refine pG_ias rfl (by rfl) hk103 (?_ : pG 4 33 [some (.ref 209), some (.int p0), some (.int p1), some (.int p2), some (.int p3), some (.int p4), some (.int ((Z.1 209 1) * 5))] [] (mjTo (zSi Z 210 (mjIx ((Z.1 209 1) * 5)) p0)) _)
      rw [mjLet] at h
      generalize zSi Z 210 (mjIx ((Z.1 209 1) * 5)) p0 = Z104 at h ⊢
      refine pG_many 1 (pc1 := 34) (L1 := [some (.ref 209), some (.int p0), some (.int p1), some (.int p2), some (.int p3), some (.int p4), some (.int ((Z.1 209 1) * 5))]) (st1 := [.ref 209]) (M1 := mjTo Z104) (fun _ _ => rfl) ?_
      refine pG_getR (ci := 1) (f := 0) (b := 210) rfl rfl rfl (by rfl) (by decide) rfl ?_
      refine pG_many 4 (pc1 := 42) (L1 := [some (.ref 209), some (.int p0), some (.int p1), some (.int p2), some (.int p3), some (.int p4), some (.int ((Z.1 209 1) * 5))]) (st1 := [.int p1, .int (((Z.1 209 1) * 5) + 1), .ref 210]) (M1 := mjTo Z104) (fun _ _ => rfl) ?_
      have hk105 : mjIn (((Z.1 209 1) * 5) + 1) 50 = true := by
        by_cases q9 : mjIn (((Z.1 209 1) * 5) + 1) 50 = true
        · exact q9
        · rw [if_neg q9] at h; cases h
      rw [if_pos hk105] at h
      refine pG_ias rfl (by rfl) hk105 (?_ : pG 4 43 [some (.ref 209), some (.int p0), some (.int p1), some (.int p2), some (.int p3), some (.int p4), some (.int ((Z.1 209 1) * 5))] [] (mjTo (zSi Z104 210 (mjIx (((Z.1 209 1) * 5) + 1)) p1)) _)
      rw [mjLet] at h
      generalize zSi Z104 210 (mjIx (((Z.1 209 1) * 5) + 1)) p1 = Z106 at h ⊢
      refine pG_many 1 (pc1 := 44) (L1 := [some (.ref 209), some (.int p0), some (.int p1), some (.int p2), some (.int p3), some (.int p4), some (.int ((Z.1 209 1) * 5))]) (st1 := [.ref 209]) (M1 := mjTo Z106) (fun _ _ => rfl) ?_
      refine pG_getR (ci := 1) (f := 0) (b := 210) rfl rfl rfl (by rfl) (by decide) rfl ?_
      refine pG_many 4 (pc1 := 52) (L1 := [some (.ref 209), some (.int p0), some (.int p1), some (.int p2), some (.int p3), some (.int p4), some (.int ((Z.1 209 1) * 5))]) (st1 := [.int p2, .int (((Z.1 209 1) * 5) + 2), .ref 210]) (M1 := mjTo Z106) (fun _ _ => rfl) ?_
      have hk107 : mjIn (((Z.1 209 1) * 5) + 2) 50 = true := by
        by_cases q9 : mjIn (((Z.1 209 1) * 5) + 2) 50 = true
        · exact q9
        · rw [if_neg q9] at h; cases h
      rw [if_pos hk107] at h
      refine pG_ias rfl (by rfl) hk107 (?_ : pG 4 53 [some (.ref 209), some (.int p0), some (.int p1), some (.int p2), some (.int p3), some (.int p4), some (.int ((Z.1 209 1) * 5))] [] (mjTo (zSi Z106 210 (mjIx (((Z.1 209 1) * 5) + 2)) p2)) _)
      rw [mjLet] at h
      generalize zSi Z106 210 (mjIx (((Z.1 209 1) * 5) + 2)) p2 = Z108 at h ⊢
      refine pG_many 1 (pc1 := 54) (L1 := [some (.ref 209), some (.int p0), some (.int p1), some (.int p2), some (.int p3), some (.int p4), some (.int ((Z.1 209 1) * 5))]) (st1 := [.ref 209]) (M1 := mjTo Z108) (fun _ _ => rfl) ?_
      refine pG_getR (ci := 1) (f := 0) (b := 210) rfl rfl rfl (by rfl) (by decide) rfl ?_
      refine pG_many 4 (pc1 := 63) (L1 := [some (.ref 209), some (.int p0), some (.int p1), some (.int p2), some (.int p3), some (.int p4), some (.int ((Z.1 209 1) * 5))]) (st1 := [.int p3, .int (((Z.1 209 1) * 5) + 3), .ref 210]) (M1 := mjTo Z108) (fun _ _ => rfl) ?_
      have hk109 : mjIn (((Z.1 209 1) * 5) + 3) 50 = true := by
        by_cases q9 : mjIn (((Z.1 209 1) * 5) + 3) 50 = true
        · exact q9
        · rw [if_neg q9] at h; cases h
      rw [if_pos hk109] at h
      refine pG_ias rfl (by rfl) hk109 (?_ : pG 4 64 [some (.ref 209), some (.int p0), some (.int p1), some (.int p2), some (.int p3), some (.int p4), some (.int ((Z.1 209 1) * 5))] [] (mjTo (zSi Z108 210 (mjIx (((Z.1 209 1) * 5) + 3)) p3)) _)
      rw [mjLet] at h
      generalize zSi Z108 210 (mjIx (((Z.1 209 1) * 5) + 3)) p3 = Z110 at h ⊢
      refine pG_many 1 (pc1 := 65) (L1 := [some (.ref 209), some (.int p0), some (.int p1), some (.int p2), some (.int p3), some (.int p4), some (.int ((Z.1 209 1) * 5))]) (st1 := [.ref 209]) (M1 := mjTo Z110) (fun _ _ => rfl) ?_
      refine pG_getR (ci := 1) (f := 0) (b := 210) rfl rfl rfl (by rfl) (by decide) rfl ?_
      refine pG_many 4 (pc1 := 74) (L1 := [some (.ref 209), some (.int p0), some (.int p1), some (.int p2), some (.int p3), some (.int p4), some (.int ((Z.1 209 1) * 5))]) (st1 := [.int p4, .int (((Z.1 209 1) * 5) + 4), .ref 210]) (M1 := mjTo Z110) (fun _ _ => rfl) ?_
      have hk111 : mjIn (((Z.1 209 1) * 5) + 4) 50 = true := by
        by_cases q9 : mjIn (((Z.1 209 1) * 5) + 4) 50 = true
        · exact q9
        · rw [if_neg q9] at h; cases h
      rw [if_pos hk111] at h
      refine pG_ias rfl (by rfl) hk111 (?_ : pG 4 75 [some (.ref 209), some (.int p0), some (.int p1), some (.int p2), some (.int p3), some (.int p4), some (.int ((Z.1 209 1) * 5))] [] (mjTo (zSi Z110 210 (mjIx (((Z.1 209 1) * 5) + 4)) p4)) _)
      rw [mjLet] at h
      generalize zSi Z110 210 (mjIx (((Z.1 209 1) * 5) + 4)) p4 = Z112 at h ⊢
      refine pG_many 2 (pc1 := 77) (L1 := [some (.ref 209), some (.int p0), some (.int p1), some (.int p2), some (.int p3), some (.int p4), some (.int ((Z.1 209 1) * 5))]) (st1 := [.ref 209, .ref 209]) (M1 := mjTo Z112) (fun _ _ => rfl) ?_
      refine pG_getI (ci := 1) (f := 1) rfl rfl (Or.inl rfl) (by rfl) (by decide) ?_
      refine pG_many 3 (pc1 := 84) (L1 := [some (.ref 209), some (.int p0), some (.int p1), some (.int p2), some (.int p3), some (.int p4), some (.int ((Z.1 209 1) * 5))]) (st1 := [.int 10, .int ((Z112.1 209 1) + 1), .ref 209]) (M1 := mjTo Z112) (fun _ _ => rfl) ?_
      by_cases hc113 : mjCmp .ge ((Z112.1 209 1) + 1) 10 = true
      · rw [if_pos hc113] at h
        refine pG_cmt (t := 96) rfl rfl hc113 ?_
        refine pG_many 1 (pc1 := 97) (L1 := [some (.ref 209), some (.int p0), some (.int p1), some (.int p2), some (.int p3), some (.int p4), some (.int ((Z.1 209 1) * 5))]) (st1 := [.int 0, .ref 209]) (M1 := mjTo Z112) (fun _ _ => rfl) ?_
        exact f4_keep_j97_ok 0 (some (.int p0)) (some (.int p1)) (some (.int p2)) (some (.int p3)) (some (.int p4)) (some (.int ((Z.1 209 1) * 5))) Z112 v9 Z9 h
      · rw [if_neg hc113] at h
        refine pG_cmf (t := 96) rfl rfl hc113 ?_
        refine pG_many 1 (pc1 := 88) (L1 := [some (.ref 209), some (.int p0), some (.int p1), some (.int p2), some (.int p3), some (.int p4), some (.int ((Z.1 209 1) * 5))]) (st1 := [.ref 209, .ref 209]) (M1 := mjTo Z112) (fun _ _ => rfl) ?_
        refine pG_getI (ci := 1) (f := 1) rfl rfl (Or.inl rfl) (by rfl) (by decide) ?_
        refine pG_many 3 (pc1 := 97) (L1 := [some (.ref 209), some (.int p0), some (.int p1), some (.int p2), some (.int p3), some (.int p4), some (.int ((Z.1 209 1) * 5))]) (st1 := [.int ((Z112.1 209 1) + 1), .ref 209]) (M1 := mjTo Z112) (fun _ _ => rfl) ?_
        exact f4_keep_j97_ok ((Z112.1 209 1) + 1) (some (.int p0)) (some (.int p1)) (some (.int p2)) (some (.int p3)) (some (.int p4)) (some (.int ((Z.1 209 1) * 5))) Z112 v9 Z9 h
def f5_at (p0 : Nat) (p1 : Int32) (Z : mjZt) : Option Int32 :=
  if mjCmp .lt p1 0 = true then
    some 0
  else
    if mjIs p0 211 13 = true then
    if mjCmp .ge p1 (Int32.ofNat (mjLay p0).2) = true then
      some 0
    else
      if mjIn p1 (mjLay p0).2 = true then
      some (Z.1 p0 (mjIx p1))
      else none
    else none
theorem f5_at_ok {p0 : Nat} {p1 : Int32} {Z : mjZt} {v9 : Int32} (h : f5_at p0 p1 Z = some v9) : pG 5 0 (mjEnt [.ref p0, .int p1] (mjML 5)) [] (mjTo Z) (fun r M1 => r = some (.int v9) ∧ M1 = mjTo Z) := by
  unfold f5_at at h
  show pG 5 0 [some (.ref p0), some (.int p1)] [] (mjTo Z) _
  refine pG_many 1 (pc1 := 1) (L1 := [some (.ref p0), some (.int p1)]) (st1 := [.int p1]) (M1 := mjTo Z) (fun _ _ => rfl) ?_
  by_cases hc101 : mjCmp .lt p1 0 = true
  · rw [if_pos hc101] at h
    refine pG_ift (t := 16) rfl rfl hc101 ?_
    refine pG_many 1 (pc1 := 17) (L1 := [some (.ref p0), some (.int p1)]) (st1 := [.int 0]) (M1 := mjTo Z) (fun _ _ => rfl) ?_
    simp only [Option.some.injEq] at h
    subst h
    exact pG_ret (r := some (.int 0)) rfl ⟨rfl, rfl⟩
  · rw [if_neg hc101] at h
    refine pG_iff (t := 16) rfl rfl hc101 ?_
    refine pG_many 2 (pc1 := 6) (L1 := [some (.ref p0), some (.int p1)]) (st1 := [.ref p0, .int p1]) (M1 := mjTo Z) (fun _ _ => rfl) ?_
    have hk102 : mjIs p0 211 13 = true := by
      by_cases q9 : mjIs p0 211 13 = true
      · exact q9
      · rw [if_neg q9] at h; cases h
    rw [if_pos hk102] at h
    refine pG_lenS (c := 13) rfl (by decide) (by decide) hk102 ?_
    by_cases hc103 : mjCmp .ge p1 (Int32.ofNat (mjLay p0).2) = true
    · rw [if_pos hc103] at h
      refine pG_cmt (t := 16) rfl rfl hc103 ?_
      refine pG_many 1 (pc1 := 17) (L1 := [some (.ref p0), some (.int p1)]) (st1 := [.int 0]) (M1 := mjTo Z) (fun _ _ => rfl) ?_
      simp only [Option.some.injEq] at h
      subst h
      exact pG_ret (r := some (.int 0)) rfl ⟨rfl, rfl⟩
    · rw [if_neg hc103] at h
      refine pG_cmf (t := 16) rfl rfl hc103 ?_
      refine pG_many 2 (pc1 := 12) (L1 := [some (.ref p0), some (.int p1)]) (st1 := [.int p1, .ref p0]) (M1 := mjTo Z) (fun _ _ => rfl) ?_
      have hk104 : mjIn p1 (mjLay p0).2 = true := by
        by_cases q9 : mjIn p1 (mjLay p0).2 = true
        · exact q9
        · rw [if_neg q9] at h; cases h
      rw [if_pos hk104] at h
      refine pG_ial rfl hk102 hk104 ?_
      refine pG_many 1 (pc1 := 17) (L1 := [some (.ref p0), some (.int p1)]) (st1 := [.int (Z.1 p0 (mjIx p1))]) (M1 := mjTo Z) (fun _ _ => rfl) ?_
      simp only [Option.some.injEq] at h
      subst h
      exact pG_ret (r := some (.int (Z.1 p0 (mjIx p1)))) rfl ⟨rfl, rfl⟩
def f6_deed (a0 : Nat) (p0 : Int32) (Z : mjZt) : Option Nat :=
  if mjCmp .lt p0 0 = true then
    if mjIs a0 211 2 = true then
    some (a0 + 17)
    else none
  else
    if mjCmp .ge p0 42 = true then
      if mjIs a0 211 2 = true then
      some (a0 + 17)
      else none
    else
      if mjIs a0 211 2 = true then
      if mjIs (a0 + 9) 211 17 = true then
      if mjIn p0 (mjLay (a0 + 9)).2 = true then
      some ((a0 + 9) + 39 + mjIx p0)
      else none
      else none
      else none
theorem f6_deed_ok {a0 : Nat} {p0 : Int32} {Z : mjZt} {v9 : Nat} (h : f6_deed a0 p0 Z = some v9) : pG 6 0 (mjEnt [.ref a0, .int p0] (mjML 6)) [] (mjTo Z) (fun r M1 => r = some (.ref v9) ∧ M1 = mjTo Z) := by
  unfold f6_deed at h
  show pG 6 0 [some (.ref a0), some (.int p0)] [] (mjTo Z) _
  refine pG_many 1 (pc1 := 1) (L1 := [some (.ref a0), some (.int p0)]) (st1 := [.int p0]) (M1 := mjTo Z) (fun _ _ => rfl) ?_
  by_cases hc101 : mjCmp .lt p0 0 = true
  · rw [if_pos hc101] at h
    refine pG_ift (t := 19) rfl rfl hc101 ?_
    refine pG_many 1 (pc1 := 20) (L1 := [some (.ref a0), some (.int p0)]) (st1 := [.ref a0]) (M1 := mjTo Z) (fun _ _ => rfl) ?_
    have hk102 : mjIs a0 211 2 = true := by
      by_cases q9 : mjIs a0 211 2 = true
      · exact q9
      · rw [if_neg q9] at h; cases h
    rw [if_pos hk102] at h
    refine pG_getR (ci := 2) (f := 18) (b := a0 + 17) rfl rfl rfl hk102 (by decide) (mjRc2_18 hk102) ?_
    simp only [Option.some.injEq] at h
    subst h
    exact pG_ret (r := some (.ref (a0 + 17))) rfl ⟨rfl, rfl⟩
  · rw [if_neg hc101] at h
    refine pG_iff (t := 19) rfl rfl hc101 ?_
    refine pG_many 2 (pc1 := 7) (L1 := [some (.ref a0), some (.int p0)]) (st1 := [.int 42, .int p0]) (M1 := mjTo Z) (fun _ _ => rfl) ?_
    by_cases hc103 : mjCmp .ge p0 42 = true
    · rw [if_pos hc103] at h
      refine pG_cmt (t := 19) rfl rfl hc103 ?_
      refine pG_many 1 (pc1 := 20) (L1 := [some (.ref a0), some (.int p0)]) (st1 := [.ref a0]) (M1 := mjTo Z) (fun _ _ => rfl) ?_
      have hk104 : mjIs a0 211 2 = true := by
        by_cases q9 : mjIs a0 211 2 = true
        · exact q9
        · rw [if_neg q9] at h; cases h
      rw [if_pos hk104] at h
      refine pG_getR (ci := 2) (f := 18) (b := a0 + 17) rfl rfl rfl hk104 (by decide) (mjRc2_18 hk104) ?_
      simp only [Option.some.injEq] at h
      subst h
      exact pG_ret (r := some (.ref (a0 + 17))) rfl ⟨rfl, rfl⟩
    · rw [if_neg hc103] at h
      refine pG_cmf (t := 19) rfl rfl hc103 ?_
      refine pG_many 1 (pc1 := 11) (L1 := [some (.ref a0), some (.int p0)]) (st1 := [.ref a0]) (M1 := mjTo Z) (fun _ _ => rfl) ?_
      have hk105 : mjIs a0 211 2 = true := by
        by_cases q9 : mjIs a0 211 2 = true
        · exact q9
        · rw [if_neg q9] at h; cases h
      rw [if_pos hk105] at h
      refine pG_getR (ci := 2) (f := 14) (b := a0 + 9) rfl rfl rfl hk105 (by decide) (mjRc2_14 hk105) ?_
      refine pG_many 1 (pc1 := 15) (L1 := [some (.ref a0), some (.int p0)]) (st1 := [.int p0, .ref (a0 + 9)]) (M1 := mjTo Z) (fun _ _ => rfl) ?_
      have hk106 : mjIs (a0 + 9) 211 17 = true := by
        by_cases q9 : mjIs (a0 + 9) 211 17 = true
        · exact q9
        · rw [if_neg q9] at h; cases h
      rw [if_pos hk106] at h
      have hk107 : mjIn p0 (mjLay (a0 + 9)).2 = true := by
        by_cases q9 : mjIn p0 (mjLay (a0 + 9)).2 = true
        · exact q9
        · rw [if_neg q9] at h; cases h
      rw [if_pos hk107] at h
      refine pG_aal (b := (a0 + 9) + 39 + mjIx p0) rfl (Or.inr hk106) hk107 (mjRa17 hk106 hk107) ?_
      refine pG_many 1 (pc1 := 23) (L1 := [some (.ref a0), some (.int p0)]) (st1 := [.ref ((a0 + 9) + 39 + mjIx p0)]) (M1 := mjTo Z) (fun _ _ => rfl) ?_
      simp only [Option.some.injEq] at h
      subst h
      exact pG_ret (r := some (.ref ((a0 + 9) + 39 + mjIx p0))) rfl ⟨rfl, rfl⟩
def f7_hasTeam (a0 : Nat) (p0 : Int32) (Z : mjZt) : Option Int32 :=
  if mjCmp .lt p0 0 = true then
    some 0
  else
    if mjIs a0 211 2 = true then
    if mjCmp .ge p0 (Z.1 a0 5) = true then
      some 0
    else
      if mjCmp .ge p0 6 = true then
        some 0
      else
        some 1
    else none
theorem f7_hasTeam_ok {a0 : Nat} {p0 : Int32} {Z : mjZt} {v9 : Int32} (h : f7_hasTeam a0 p0 Z = some v9) : pG 7 0 (mjEnt [.ref a0, .int p0] (mjML 7)) [] (mjTo Z) (fun r M1 => r = some (.int v9) ∧ M1 = mjTo Z) := by
  unfold f7_hasTeam at h
  show pG 7 0 [some (.ref a0), some (.int p0)] [] (mjTo Z) _
  refine pG_many 1 (pc1 := 1) (L1 := [some (.ref a0), some (.int p0)]) (st1 := [.int p0]) (M1 := mjTo Z) (fun _ _ => rfl) ?_
  by_cases hc101 : mjCmp .lt p0 0 = true
  · rw [if_pos hc101] at h
    refine pG_ift (t := 22) rfl rfl hc101 ?_
    refine pG_many 1 (pc1 := 23) (L1 := [some (.ref a0), some (.int p0)]) (st1 := [.int 0]) (M1 := mjTo Z) (fun _ _ => rfl) ?_
    simp only [Option.some.injEq] at h
    subst h
    exact pG_ret (r := some (.int 0)) rfl ⟨rfl, rfl⟩
  · rw [if_neg hc101] at h
    refine pG_iff (t := 22) rfl rfl hc101 ?_
    refine pG_many 2 (pc1 := 6) (L1 := [some (.ref a0), some (.int p0)]) (st1 := [.ref a0, .int p0]) (M1 := mjTo Z) (fun _ _ => rfl) ?_
    have hk102 : mjIs a0 211 2 = true := by
      by_cases q9 : mjIs a0 211 2 = true
      · exact q9
      · rw [if_neg q9] at h; cases h
    rw [if_pos hk102] at h
    refine pG_getI (ci := 2) (f := 5) rfl rfl (Or.inl rfl) hk102 (by decide) ?_
    by_cases hc103 : mjCmp .ge p0 (Z.1 a0 5) = true
    · rw [if_pos hc103] at h
      refine pG_cmt (t := 22) rfl rfl hc103 ?_
      refine pG_many 1 (pc1 := 23) (L1 := [some (.ref a0), some (.int p0)]) (st1 := [.int 0]) (M1 := mjTo Z) (fun _ _ => rfl) ?_
      simp only [Option.some.injEq] at h
      subst h
      exact pG_ret (r := some (.int 0)) rfl ⟨rfl, rfl⟩
    · rw [if_neg hc103] at h
      refine pG_cmf (t := 22) rfl rfl hc103 ?_
      refine pG_many 2 (pc1 := 15) (L1 := [some (.ref a0), some (.int p0)]) (st1 := [.int 6, .int p0]) (M1 := mjTo Z) (fun _ _ => rfl) ?_
      by_cases hc104 : mjCmp .ge p0 6 = true
      · rw [if_pos hc104] at h
        refine pG_cmt (t := 22) rfl rfl hc104 ?_
        refine pG_many 1 (pc1 := 23) (L1 := [some (.ref a0), some (.int p0)]) (st1 := [.int 0]) (M1 := mjTo Z) (fun _ _ => rfl) ?_
        simp only [Option.some.injEq] at h
        subst h
        exact pG_ret (r := some (.int 0)) rfl ⟨rfl, rfl⟩
      · rw [if_neg hc104] at h
        refine pG_cmf (t := 22) rfl rfl hc104 ?_
        refine pG_many 2 (pc1 := 23) (L1 := [some (.ref a0), some (.int p0)]) (st1 := [.int 1]) (M1 := mjTo Z) (fun _ _ => rfl) ?_
        simp only [Option.some.injEq] at h
        subst h
        exact pG_ret (r := some (.int 1)) rfl ⟨rfl, rfl⟩
def f8_runner (a0 : Nat) (p0 : Int32) (Z : mjZt) : Option Nat :=
  if mjIs a0 211 2 = true then
  mjBp (f7_hasTeam a0 p0 Z) fun v103 =>
  if mjCmp .eq v103 0 = true then
    some (a0 + 12)
  else
    if mjIs (a0 + 8) 211 16 = true then
    if mjIn p0 (mjLay (a0 + 8)).2 = true then
    some ((a0 + 8) + 10 + 5 * mjIx p0)
    else none
    else none
  else none
theorem f8_runner_ok {a0 : Nat} {p0 : Int32} {Z : mjZt} {v9 : Nat} (h : f8_runner a0 p0 Z = some v9) : pG 8 0 (mjEnt [.ref a0, .int p0] (mjML 8)) [] (mjTo Z) (fun r M1 => r = some (.ref v9) ∧ M1 = mjTo Z) := by
  unfold f8_runner at h
  show pG 8 0 [some (.ref a0), some (.int p0)] [] (mjTo Z) _
  refine pG_many 2 (pc1 := 2) (L1 := [some (.ref a0), some (.int p0)]) (st1 := [.int p0, .ref a0]) (M1 := mjTo Z) (fun _ _ => rfl) ?_
  have hk101 : mjIs a0 211 2 = true := by
    by_cases q9 : mjIs a0 211 2 = true
    · exact q9
    · rw [if_neg q9] at h; cases h
  rw [if_pos hk101] at h
  cases hq102 : f7_hasTeam a0 p0 Z with
  | none => rw [hq102] at h; cases h
  | some v103 =>
    rw [hq102, mjBp_some] at h
    refine pG_callV (k2 := 7) (As := [.ref a0, .int p0]) (rest := []) rfl rfl rfl rfl rfl (mjRcv_is hk101 (by decide)) (by decide) (by decide) (f7_hasTeam_ok hq102) ?_
    rintro r9 M9 ⟨rfl, rfl⟩
    show pG 8 5 [some (.ref a0), some (.int p0)] [.int v103] (mjTo Z) _
    by_cases hc105 : mjCmp .eq v103 0 = true
    · rw [if_pos hc105] at h
      refine pG_ift (t := 17) rfl rfl hc105 ?_
      refine pG_many 1 (pc1 := 18) (L1 := [some (.ref a0), some (.int p0)]) (st1 := [.ref a0]) (M1 := mjTo Z) (fun _ _ => rfl) ?_
      refine pG_getR (ci := 2) (f := 17) (b := a0 + 12) rfl rfl rfl hk101 (by decide) (mjRc2_17 hk101) ?_
      simp only [Option.some.injEq] at h
      subst h
      exact pG_ret (r := some (.ref (a0 + 12))) rfl ⟨rfl, rfl⟩
    · rw [if_neg hc105] at h
      refine pG_iff (t := 17) rfl rfl hc105 ?_
      refine pG_many 1 (pc1 := 9) (L1 := [some (.ref a0), some (.int p0)]) (st1 := [.ref a0]) (M1 := mjTo Z) (fun _ _ => rfl) ?_
      refine pG_getR (ci := 2) (f := 13) (b := a0 + 8) rfl rfl rfl hk101 (by decide) (mjRc2_13 hk101) ?_
      refine pG_many 1 (pc1 := 13) (L1 := [some (.ref a0), some (.int p0)]) (st1 := [.int p0, .ref (a0 + 8)]) (M1 := mjTo Z) (fun _ _ => rfl) ?_
      have hk106 : mjIs (a0 + 8) 211 16 = true := by
        by_cases q9 : mjIs (a0 + 8) 211 16 = true
        · exact q9
        · rw [if_neg q9] at h; cases h
      rw [if_pos hk106] at h
      have hk107 : mjIn p0 (mjLay (a0 + 8)).2 = true := by
        by_cases q9 : mjIn p0 (mjLay (a0 + 8)).2 = true
        · exact q9
        · rw [if_neg q9] at h; cases h
      rw [if_pos hk107] at h
      refine pG_aal (b := (a0 + 8) + 10 + 5 * mjIx p0) rfl (Or.inl hk106) hk107 (mjRa16 hk106 hk107) ?_
      refine pG_many 1 (pc1 := 21) (L1 := [some (.ref a0), some (.int p0)]) (st1 := [.ref ((a0 + 8) + 10 + 5 * mjIx p0)]) (M1 := mjTo Z) (fun _ _ => rfl) ?_
      simp only [Option.some.injEq] at h
      subst h
      exact pG_ret (r := some (.ref ((a0 + 8) + 10 + 5 * mjIx p0))) rfl ⟨rfl, rfl⟩
def f9_setLeg (a0 : Nat) (p0 : Int32) (p1 : Int32) (p2 : Int32) (Z : mjZt) : Option (Unit × mjZt) :=
  if mjCmp .lt p0 1 = true then
    some ((), Z)
  else
    if mjCmp .gt p0 6 = true then
      some ((), Z)
    else
      if mjIs a0 211 7 = true then
      if mjIs (a0 + 1) 211 13 = true then
      if mjIn p0 (mjLay (a0 + 1)).2 = true then
      mjLet (zSi Z (a0 + 1) (mjIx p0) p1) fun Z106 =>
      if mjIs (a0 + 2) 211 13 = true then
      if mjIn p0 (mjLay (a0 + 2)).2 = true then
      mjLet (zSi Z106 (a0 + 2) (mjIx p0) p2) fun Z109 =>
      some ((), Z109)
      else none
      else none
      else none
      else none
      else none
theorem f9_setLeg_ok {a0 : Nat} {p0 : Int32} {p1 : Int32} {p2 : Int32} {Z : mjZt} {v9 : Unit} {Z9 : mjZt} (h : f9_setLeg a0 p0 p1 p2 Z = some (v9, Z9)) : pG 9 0 (mjEnt [.ref a0, .int p0, .int p1, .int p2] (mjML 9)) [] (mjTo Z) (fun r M1 => r = none ∧ M1 = mjTo Z9) := by
  unfold f9_setLeg at h
  show pG 9 0 [some (.ref a0), some (.int p0), some (.int p1), some (.int p2)] [] (mjTo Z) _
  refine pG_many 2 (pc1 := 2) (L1 := [some (.ref a0), some (.int p0), some (.int p1), some (.int p2)]) (st1 := [.int 1, .int p0]) (M1 := mjTo Z) (fun _ _ => rfl) ?_
  by_cases hc101 : mjCmp .lt p0 1 = true
  · rw [if_pos hc101] at h
    refine pG_cmt (t := 25) rfl rfl hc101 ?_
    simp only [Option.some.injEq, Prod.mk.injEq] at h
    obtain ⟨-, rfl⟩ := h
    exact pG_ret (r := none) rfl ⟨rfl, rfl⟩
  · rw [if_neg hc101] at h
    refine pG_cmf (t := 25) rfl rfl hc101 ?_
    refine pG_many 2 (pc1 := 8) (L1 := [some (.ref a0), some (.int p0), some (.int p1), some (.int p2)]) (st1 := [.int 6, .int p0]) (M1 := mjTo Z) (fun _ _ => rfl) ?_
    by_cases hc102 : mjCmp .gt p0 6 = true
    · rw [if_pos hc102] at h
      refine pG_cmt (t := 25) rfl rfl hc102 ?_
      simp only [Option.some.injEq, Prod.mk.injEq] at h
      obtain ⟨-, rfl⟩ := h
      exact pG_ret (r := none) rfl ⟨rfl, rfl⟩
    · rw [if_neg hc102] at h
      refine pG_cmf (t := 25) rfl rfl hc102 ?_
      refine pG_many 1 (pc1 := 12) (L1 := [some (.ref a0), some (.int p0), some (.int p1), some (.int p2)]) (st1 := [.ref a0]) (M1 := mjTo Z) (fun _ _ => rfl) ?_
      have hk103 : mjIs a0 211 7 = true := by
        by_cases q9 : mjIs a0 211 7 = true
        · exact q9
        · rw [if_neg q9] at h; cases h
      rw [if_pos hk103] at h
      refine pG_getR (ci := 7) (f := 0) (b := a0 + 1) rfl rfl rfl hk103 (by decide) (mjRc7_0 hk103) ?_
      refine pG_many 2 (pc1 := 17) (L1 := [some (.ref a0), some (.int p0), some (.int p1), some (.int p2)]) (st1 := [.int p1, .int p0, .ref (a0 + 1)]) (M1 := mjTo Z) (fun _ _ => rfl) ?_
      have hk104 : mjIs (a0 + 1) 211 13 = true := by
        by_cases q9 : mjIs (a0 + 1) 211 13 = true
        · exact q9
        · rw [if_neg q9] at h; cases h
      rw [if_pos hk104] at h
      have hk105 : mjIn p0 (mjLay (a0 + 1)).2 = true := by
        by_cases q9 : mjIn p0 (mjLay (a0 + 1)).2 = true
        · exact q9
        · rw [if_neg q9] at h; cases h
      rw [if_pos hk105] at h
      refine pG_ias rfl hk104 hk105 (?_ : pG 9 18 [some (.ref a0), some (.int p0), some (.int p1), some (.int p2)] [] (mjTo (zSi Z (a0 + 1) (mjIx p0) p1)) _)
      rw [mjLet] at h
      generalize zSi Z (a0 + 1) (mjIx p0) p1 = Z106 at h ⊢
      refine pG_many 1 (pc1 := 19) (L1 := [some (.ref a0), some (.int p0), some (.int p1), some (.int p2)]) (st1 := [.ref a0]) (M1 := mjTo Z106) (fun _ _ => rfl) ?_
      refine pG_getR (ci := 7) (f := 1) (b := a0 + 2) rfl rfl rfl hk103 (by decide) (mjRc7_1 hk103) ?_
      refine pG_many 2 (pc1 := 24) (L1 := [some (.ref a0), some (.int p0), some (.int p1), some (.int p2)]) (st1 := [.int p2, .int p0, .ref (a0 + 2)]) (M1 := mjTo Z106) (fun _ _ => rfl) ?_
      have hk107 : mjIs (a0 + 2) 211 13 = true := by
        by_cases q9 : mjIs (a0 + 2) 211 13 = true
        · exact q9
        · rw [if_neg q9] at h; cases h
      rw [if_pos hk107] at h
      have hk108 : mjIn p0 (mjLay (a0 + 2)).2 = true := by
        by_cases q9 : mjIn p0 (mjLay (a0 + 2)).2 = true
        · exact q9
        · rw [if_neg q9] at h; cases h
      rw [if_pos hk108] at h
      refine pG_ias rfl hk107 hk108 (?_ : pG 9 25 [some (.ref a0), some (.int p0), some (.int p1), some (.int p2)] [] (mjTo (zSi Z106 (a0 + 2) (mjIx p0) p2)) _)
      rw [mjLet] at h
      generalize zSi Z106 (a0 + 2) (mjIx p0) p2 = Z109 at h ⊢
      simp only [Option.some.injEq, Prod.mk.injEq] at h
      obtain ⟨-, rfl⟩ := h
      exact pG_ret (r := none) rfl ⟨rfl, rfl⟩
def f10_takeBack_j27 (x1 : Nat) (s1 : Int32) (Z : mjZt) : Option (Unit × mjZt) :=
  mjLet (zSi Z 209 1 s1) fun Z103 =>
  mjLet (zSi Z103 209 2 ((Z103.1 209 2) - 1)) fun Z104 =>
  mjBp (f5_at 210 (((Z104.1 209 1) * 5) + 1) Z104) fun v106 =>
  mjBp (f5_at 210 (((Z104.1 209 1) * 5) + 2) Z104) fun v109 =>
  mjBp (f5_at 210 ((Z104.1 209 1) * 5) Z104) fun v112 =>
  if (v112).toInt < 0 ∨ 2 < (v112).toInt then
    if mjIs x1 211 2 = true then
    mjBp (f8_runner x1 v106 Z104) fun v117 =>
    mjBp (f5_at 210 (((Z104.1 209 1) * 5) + 3) Z104) fun v120 =>
    mjBp (f5_at 210 (((Z104.1 209 1) * 5) + 4) Z104) fun v123 =>
    if mjIs v117 211 7 = true then
    mjBd (f9_setLeg v117 v109 v120 v123 Z104) fun _ Z128 =>
    some ((), Z128)
    else none
    else none
  else if ((v112).toInt - 0).toNat = 0 then
    if mjIs x1 211 2 = true then
    mjBp (f6_deed x1 v106 Z104) fun v132 =>
    if mjIs v132 211 0 = true then
    mjLet (zSi Z104 v132 3 v109) fun Z135 =>
    some ((), Z135)
    else none
    else none
  else if ((v112).toInt - 0).toNat = 1 then
    if mjIs x1 211 2 = true then
    mjBp (f6_deed x1 v106 Z104) fun v139 =>
    if mjIs v139 211 0 = true then
    mjLet (zSi Z104 v139 4 v109) fun Z142 =>
    some ((), Z142)
    else none
    else none
  else if ((v112).toInt - 0).toNat = 2 then
    if mjIs x1 211 2 = true then
    mjLet (zSl Z104 x1 11 ((Z104.2.1 x1 11) ^^^ (1 <<< (Int32.toInt64 v106 &&& 63)))) fun Z145 =>
    some ((), Z145)
    else none
  else none
theorem f10_takeBack_j27_ok (x1 : Nat) (s1 : Int32) (d2 d3 d4 : Option Value) (Z : mjZt) (v9 : Unit) (Z9 : mjZt) (h : f10_takeBack_j27 x1 s1 Z = some (v9, Z9)) : pG 10 27 [some (.ref 209), some (.ref x1), d2, d3, d4] [.int s1, .ref 209] (mjTo Z) (fun r M1 => r = none ∧ M1 = mjTo Z9) := by
  unfold f10_takeBack_j27 at h
  refine pG_putI (ci := 1) (f := 1) rfl rfl rfl rfl (by rfl) (by decide) ?_
  rw [mjLet] at h
  generalize zSi Z 209 1 s1 = Z103 at h ⊢
  refine pG_many 2 (pc1 := 32) (L1 := [some (.ref 209), some (.ref x1), d2, d3, d4]) (st1 := [.ref 209, .ref 209]) (M1 := mjTo Z103) (fun _ _ => rfl) ?_
  refine pG_getI (ci := 1) (f := 2) rfl rfl (Or.inl rfl) (by rfl) (by decide) ?_
  refine pG_many 2 (pc1 := 37) (L1 := [some (.ref 209), some (.ref x1), d2, d3, d4]) (st1 := [.int ((Z103.1 209 2) - 1), .ref 209]) (M1 := mjTo Z103) (fun _ _ => rfl) ?_
  refine pG_putI (ci := 1) (f := 2) rfl rfl rfl rfl (by rfl) (by decide) ?_
  rw [mjLet] at h
  generalize zSi Z103 209 2 ((Z103.1 209 2) - 1) = Z104 at h ⊢
  refine pG_many 1 (pc1 := 41) (L1 := [some (.ref 209), some (.ref x1), d2, d3, d4]) (st1 := [.ref 209]) (M1 := mjTo Z104) (fun _ _ => rfl) ?_
  refine pG_getI (ci := 1) (f := 1) rfl rfl (Or.inl rfl) (by rfl) (by decide) ?_
  refine pG_many 4 (pc1 := 48) (L1 := [some (.ref 209), some (.ref x1), some (.int ((Z104.1 209 1) * 5)), d3, d4]) (st1 := [.ref 209]) (M1 := mjTo Z104) (fun _ _ => rfl) ?_
  refine pG_getR (ci := 1) (f := 0) (b := 210) rfl rfl rfl (by rfl) (by decide) rfl ?_
  refine pG_many 3 (pc1 := 54) (L1 := [some (.ref 209), some (.ref x1), some (.int ((Z104.1 209 1) * 5)), d3, d4]) (st1 := [.int (((Z104.1 209 1) * 5) + 1), .ref 210]) (M1 := mjTo Z104) (fun _ _ => rfl) ?_
  cases hq105 : f5_at 210 (((Z104.1 209 1) * 5) + 1) Z104 with
  | none => rw [hq105] at h; cases h
  | some v106 =>
    rw [hq105, mjBp_some] at h
    refine pG_call (k2 := 5) (As := [.ref 210, .int (((Z104.1 209 1) * 5) + 1)]) (rest := []) (fun _ _ => rfl) (by decide) (by decide) (f5_at_ok hq105) ?_
    rintro r9 M9 ⟨rfl, rfl⟩
    show pG 10 57 [some (.ref 209), some (.ref x1), some (.int ((Z104.1 209 1) * 5)), d3, d4] [.int v106] (mjTo Z104) _
    refine pG_many 2 (pc1 := 59) (L1 := [some (.ref 209), some (.ref x1), some (.int ((Z104.1 209 1) * 5)), some (.int v106), d4]) (st1 := [.ref 209]) (M1 := mjTo Z104) (fun _ _ => rfl) ?_
    refine pG_getR (ci := 1) (f := 0) (b := 210) rfl rfl rfl (by rfl) (by decide) rfl ?_
    refine pG_many 3 (pc1 := 65) (L1 := [some (.ref 209), some (.ref x1), some (.int ((Z104.1 209 1) * 5)), some (.int v106), d4]) (st1 := [.int (((Z104.1 209 1) * 5) + 2), .ref 210]) (M1 := mjTo Z104) (fun _ _ => rfl) ?_
    cases hq108 : f5_at 210 (((Z104.1 209 1) * 5) + 2) Z104 with
    | none => rw [hq108] at h; cases h
    | some v109 =>
      rw [hq108, mjBp_some] at h
      refine pG_call (k2 := 5) (As := [.ref 210, .int (((Z104.1 209 1) * 5) + 2)]) (rest := []) (fun _ _ => rfl) (by decide) (by decide) (f5_at_ok hq108) ?_
      rintro r9 M9 ⟨rfl, rfl⟩
      show pG 10 68 [some (.ref 209), some (.ref x1), some (.int ((Z104.1 209 1) * 5)), some (.int v106), d4] [.int v109] (mjTo Z104) _
      refine pG_many 2 (pc1 := 71) (L1 := [some (.ref 209), some (.ref x1), some (.int ((Z104.1 209 1) * 5)), some (.int v106), some (.int v109)]) (st1 := [.ref 209]) (M1 := mjTo Z104) (fun _ _ => rfl) ?_
      refine pG_getR (ci := 1) (f := 0) (b := 210) rfl rfl rfl (by rfl) (by decide) rfl ?_
      refine pG_many 1 (pc1 := 75) (L1 := [some (.ref 209), some (.ref x1), some (.int ((Z104.1 209 1) * 5)), some (.int v106), some (.int v109)]) (st1 := [.int ((Z104.1 209 1) * 5), .ref 210]) (M1 := mjTo Z104) (fun _ _ => rfl) ?_
      cases hq111 : f5_at 210 ((Z104.1 209 1) * 5) Z104 with
      | none => rw [hq111] at h; cases h
      | some v112 =>
        rw [hq111, mjBp_some] at h
        refine pG_call (k2 := 5) (As := [.ref 210, .int ((Z104.1 209 1) * 5)]) (rest := []) (fun _ _ => rfl) (by decide) (by decide) (f5_at_ok hq111) ?_
        rintro r9 M9 ⟨rfl, rfl⟩
        show pG 10 78 [some (.ref 209), some (.ref x1), some (.int ((Z104.1 209 1) * 5)), some (.int v106), some (.int v109)] [.int v112] (mjTo Z104) _
        by_cases hs114 : (v112).toInt < 0 ∨ 2 < (v112).toInt
        · rw [if_pos hs114] at h
          refine pG_tso (t := 145) rfl hs114 rfl ?_
          refine pG_many 2 (pc1 := 147) (L1 := [some (.ref 209), some (.ref x1), some (.int ((Z104.1 209 1) * 5)), some (.int v106), some (.int v109)]) (st1 := [.int v106, .ref x1]) (M1 := mjTo Z104) (fun _ _ => rfl) ?_
          have hk115 : mjIs x1 211 2 = true := by
            by_cases q9 : mjIs x1 211 2 = true
            · exact q9
            · rw [if_neg q9] at h; cases h
          rw [if_pos hk115] at h
          cases hq116 : f8_runner x1 v106 Z104 with
          | none => rw [hq116] at h; cases h
          | some v117 =>
            rw [hq116, mjBp_some] at h
            refine pG_callV (k2 := 8) (As := [.ref x1, .int v106]) (rest := []) rfl rfl rfl rfl rfl (mjRcv_is hk115 (by decide)) (by decide) (by decide) (f8_runner_ok hq116) ?_
            rintro r9 M9 ⟨rfl, rfl⟩
            show pG 10 150 [some (.ref 209), some (.ref x1), some (.int ((Z104.1 209 1) * 5)), some (.int v106), some (.int v109)] [.ref v117] (mjTo Z104) _
            refine pG_many 2 (pc1 := 153) (L1 := [some (.ref 209), some (.ref x1), some (.int ((Z104.1 209 1) * 5)), some (.int v106), some (.int v109)]) (st1 := [.ref 209, .int v109, .ref v117]) (M1 := mjTo Z104) (fun _ _ => rfl) ?_
            refine pG_getR (ci := 1) (f := 0) (b := 210) rfl rfl rfl (by rfl) (by decide) rfl ?_
            refine pG_many 3 (pc1 := 159) (L1 := [some (.ref 209), some (.ref x1), some (.int ((Z104.1 209 1) * 5)), some (.int v106), some (.int v109)]) (st1 := [.int (((Z104.1 209 1) * 5) + 3), .ref 210, .int v109, .ref v117]) (M1 := mjTo Z104) (fun _ _ => rfl) ?_
            cases hq119 : f5_at 210 (((Z104.1 209 1) * 5) + 3) Z104 with
            | none => rw [hq119] at h; cases h
            | some v120 =>
              rw [hq119, mjBp_some] at h
              refine pG_call (k2 := 5) (As := [.ref 210, .int (((Z104.1 209 1) * 5) + 3)]) (rest := [.int v109, .ref v117]) (fun _ _ => rfl) (by decide) (by decide) (f5_at_ok hq119) ?_
              rintro r9 M9 ⟨rfl, rfl⟩
              show pG 10 162 [some (.ref 209), some (.ref x1), some (.int ((Z104.1 209 1) * 5)), some (.int v106), some (.int v109)] [.int v120, .int v109, .ref v117] (mjTo Z104) _
              refine pG_many 1 (pc1 := 163) (L1 := [some (.ref 209), some (.ref x1), some (.int ((Z104.1 209 1) * 5)), some (.int v106), some (.int v109)]) (st1 := [.ref 209, .int v120, .int v109, .ref v117]) (M1 := mjTo Z104) (fun _ _ => rfl) ?_
              refine pG_getR (ci := 1) (f := 0) (b := 210) rfl rfl rfl (by rfl) (by decide) rfl ?_
              refine pG_many 3 (pc1 := 169) (L1 := [some (.ref 209), some (.ref x1), some (.int ((Z104.1 209 1) * 5)), some (.int v106), some (.int v109)]) (st1 := [.int (((Z104.1 209 1) * 5) + 4), .ref 210, .int v120, .int v109, .ref v117]) (M1 := mjTo Z104) (fun _ _ => rfl) ?_
              cases hq122 : f5_at 210 (((Z104.1 209 1) * 5) + 4) Z104 with
              | none => rw [hq122] at h; cases h
              | some v123 =>
                rw [hq122, mjBp_some] at h
                refine pG_call (k2 := 5) (As := [.ref 210, .int (((Z104.1 209 1) * 5) + 4)]) (rest := [.int v120, .int v109, .ref v117]) (fun _ _ => rfl) (by decide) (by decide) (f5_at_ok hq122) ?_
                rintro r9 M9 ⟨rfl, rfl⟩
                show pG 10 172 [some (.ref 209), some (.ref x1), some (.int ((Z104.1 209 1) * 5)), some (.int v106), some (.int v109)] [.int v123, .int v120, .int v109, .ref v117] (mjTo Z104) _
                have hk125 : mjIs v117 211 7 = true := by
                  by_cases q9 : mjIs v117 211 7 = true
                  · exact q9
                  · rw [if_neg q9] at h; cases h
                rw [if_pos hk125] at h
                cases hq126 : f9_setLeg v117 v109 v120 v123 Z104 with
                | none => rw [hq126] at h; cases h
                | some w =>
                  obtain ⟨v127, Z128⟩ := w
                  rw [hq126, mjBd_some] at h
                  refine pG_callV (k2 := 9) (As := [.ref v117, .int v109, .int v120, .int v123]) (rest := []) rfl rfl rfl rfl rfl (mjRcv_is hk125 (by decide)) (by decide) (by decide) (f9_setLeg_ok hq126) ?_
                  rintro r9 M9 ⟨rfl, rfl⟩
                  show pG 10 175 [some (.ref 209), some (.ref x1), some (.int ((Z104.1 209 1) * 5)), some (.int v106), some (.int v109)] [] (mjTo Z128) _
                  simp only [Option.some.injEq, Prod.mk.injEq] at h
                  obtain ⟨-, rfl⟩ := h
                  exact pG_ret (r := none) rfl ⟨rfl, rfl⟩
        rw [if_neg hs114] at h
        by_cases hs129 : ((v112).toInt - 0).toNat = 0
        · rw [if_pos hs129] at h
          refine pG_tsi (t := 104) (j := 0) (o := 26) rfl hs114 hs129 rfl rfl ?_
          refine pG_many 2 (pc1 := 106) (L1 := [some (.ref 209), some (.ref x1), some (.int ((Z104.1 209 1) * 5)), some (.int v106), some (.int v109)]) (st1 := [.int v106, .ref x1]) (M1 := mjTo Z104) (fun _ _ => rfl) ?_
          have hk130 : mjIs x1 211 2 = true := by
            by_cases q9 : mjIs x1 211 2 = true
            · exact q9
            · rw [if_neg q9] at h; cases h
          rw [if_pos hk130] at h
          cases hq131 : f6_deed x1 v106 Z104 with
          | none => rw [hq131] at h; cases h
          | some v132 =>
            rw [hq131, mjBp_some] at h
            refine pG_callV (k2 := 6) (As := [.ref x1, .int v106]) (rest := []) rfl rfl rfl rfl rfl (mjRcv_is hk130 (by decide)) (by decide) (by decide) (f6_deed_ok hq131) ?_
            rintro r9 M9 ⟨rfl, rfl⟩
            show pG 10 109 [some (.ref 209), some (.ref x1), some (.int ((Z104.1 209 1) * 5)), some (.int v106), some (.int v109)] [.ref v132] (mjTo Z104) _
            refine pG_many 1 (pc1 := 111) (L1 := [some (.ref 209), some (.ref x1), some (.int ((Z104.1 209 1) * 5)), some (.int v106), some (.int v109)]) (st1 := [.int v109, .ref v132]) (M1 := mjTo Z104) (fun _ _ => rfl) ?_
            have hk134 : mjIs v132 211 0 = true := by
              by_cases q9 : mjIs v132 211 0 = true
              · exact q9
              · rw [if_neg q9] at h; cases h
            rw [if_pos hk134] at h
            refine pG_putI (ci := 0) (f := 3) rfl rfl rfl rfl hk134 (by decide) ?_
            rw [mjLet] at h
            generalize zSi Z104 v132 3 v109 = Z135 at h ⊢
            refine pG_many 1 (pc1 := 175) (L1 := [some (.ref 209), some (.ref x1), some (.int ((Z104.1 209 1) * 5)), some (.int v106), some (.int v109)]) (st1 := []) (M1 := mjTo Z135) (fun _ _ => rfl) ?_
            simp only [Option.some.injEq, Prod.mk.injEq] at h
            obtain ⟨-, rfl⟩ := h
            exact pG_ret (r := none) rfl ⟨rfl, rfl⟩
        rw [if_neg hs129] at h
        by_cases hs136 : ((v112).toInt - 0).toNat = 1
        · rw [if_pos hs136] at h
          refine pG_tsi (t := 117) (j := 1) (o := 39) rfl hs114 hs136 rfl rfl ?_
          refine pG_many 2 (pc1 := 119) (L1 := [some (.ref 209), some (.ref x1), some (.int ((Z104.1 209 1) * 5)), some (.int v106), some (.int v109)]) (st1 := [.int v106, .ref x1]) (M1 := mjTo Z104) (fun _ _ => rfl) ?_
          have hk137 : mjIs x1 211 2 = true := by
            by_cases q9 : mjIs x1 211 2 = true
            · exact q9
            · rw [if_neg q9] at h; cases h
          rw [if_pos hk137] at h
          cases hq138 : f6_deed x1 v106 Z104 with
          | none => rw [hq138] at h; cases h
          | some v139 =>
            rw [hq138, mjBp_some] at h
            refine pG_callV (k2 := 6) (As := [.ref x1, .int v106]) (rest := []) rfl rfl rfl rfl rfl (mjRcv_is hk137 (by decide)) (by decide) (by decide) (f6_deed_ok hq138) ?_
            rintro r9 M9 ⟨rfl, rfl⟩
            show pG 10 122 [some (.ref 209), some (.ref x1), some (.int ((Z104.1 209 1) * 5)), some (.int v106), some (.int v109)] [.ref v139] (mjTo Z104) _
            refine pG_many 1 (pc1 := 124) (L1 := [some (.ref 209), some (.ref x1), some (.int ((Z104.1 209 1) * 5)), some (.int v106), some (.int v109)]) (st1 := [.int v109, .ref v139]) (M1 := mjTo Z104) (fun _ _ => rfl) ?_
            have hk141 : mjIs v139 211 0 = true := by
              by_cases q9 : mjIs v139 211 0 = true
              · exact q9
              · rw [if_neg q9] at h; cases h
            rw [if_pos hk141] at h
            refine pG_putI (ci := 0) (f := 4) rfl rfl rfl rfl hk141 (by decide) ?_
            rw [mjLet] at h
            generalize zSi Z104 v139 4 v109 = Z142 at h ⊢
            refine pG_many 1 (pc1 := 175) (L1 := [some (.ref 209), some (.ref x1), some (.int ((Z104.1 209 1) * 5)), some (.int v106), some (.int v109)]) (st1 := []) (M1 := mjTo Z142) (fun _ _ => rfl) ?_
            simp only [Option.some.injEq, Prod.mk.injEq] at h
            obtain ⟨-, rfl⟩ := h
            exact pG_ret (r := none) rfl ⟨rfl, rfl⟩
        rw [if_neg hs136] at h
        by_cases hs143 : ((v112).toInt - 0).toNat = 2
        · rw [if_pos hs143] at h
          refine pG_tsi (t := 130) (j := 2) (o := 52) rfl hs114 hs143 rfl rfl ?_
          refine pG_many 2 (pc1 := 132) (L1 := [some (.ref 209), some (.ref x1), some (.int ((Z104.1 209 1) * 5)), some (.int v106), some (.int v109)]) (st1 := [.ref x1, .ref x1]) (M1 := mjTo Z104) (fun _ _ => rfl) ?_
          have hk144 : mjIs x1 211 2 = true := by
            by_cases q9 : mjIs x1 211 2 = true
            · exact q9
            · rw [if_neg q9] at h; cases h
          rw [if_pos hk144] at h
          refine pG_getL (ci := 2) (f := 11) rfl rfl rfl hk144 (by decide) ?_
          refine pG_many 4 (pc1 := 139) (L1 := [some (.ref 209), some (.ref x1), some (.int ((Z104.1 209 1) * 5)), some (.int v106), some (.int v109)]) (st1 := [.long ((Z104.2.1 x1 11) ^^^ (1 <<< (Int32.toInt64 v106 &&& 63))), .ref x1]) (M1 := mjTo Z104) (fun _ _ => rfl) ?_
          refine pG_putL (ci := 2) (f := 11) rfl rfl rfl rfl hk144 (by decide) ?_
          rw [mjLet] at h
          generalize zSl Z104 x1 11 ((Z104.2.1 x1 11) ^^^ (1 <<< (Int32.toInt64 v106 &&& 63))) = Z145 at h ⊢
          refine pG_many 1 (pc1 := 175) (L1 := [some (.ref 209), some (.ref x1), some (.int ((Z104.1 209 1) * 5)), some (.int v106), some (.int v109)]) (st1 := []) (M1 := mjTo Z145) (fun _ _ => rfl) ?_
          simp only [Option.some.injEq, Prod.mk.injEq] at h
          obtain ⟨-, rfl⟩ := h
          exact pG_ret (r := none) rfl ⟨rfl, rfl⟩
        rw [if_neg hs143] at h
        cases h
def f10_takeBack (p0 : Nat) (Z : mjZt) : Option (Unit × mjZt) :=
  if mjCmp .ne (Z.1 209 2) 0 = true then
    if mjCmp .le (Z.1 209 1) 0 = true then
      f10_takeBack_j27 p0 9 Z
    else
      f10_takeBack_j27 p0 ((Z.1 209 1) - 1) Z
  else
    some ((), Z)
theorem f10_takeBack_ok {p0 : Nat} {Z : mjZt} {v9 : Unit} {Z9 : mjZt} (h : f10_takeBack p0 Z = some (v9, Z9)) : pG 10 0 (mjEnt [.ref 209, .ref p0] (mjML 10)) [] (mjTo Z) (fun r M1 => r = none ∧ M1 = mjTo Z9) := by
  unfold f10_takeBack at h
  show pG 10 0 [some (.ref 209), some (.ref p0), none, none, none] [] (mjTo Z) _
  refine pG_many 1 (pc1 := 1) (L1 := [some (.ref 209), some (.ref p0), none, none, none]) (st1 := [.ref 209]) (M1 := mjTo Z) (fun _ _ => rfl) ?_
  refine pG_getI (ci := 1) (f := 2) rfl rfl (Or.inl rfl) (by rfl) (by decide) ?_
  by_cases hc101 : mjCmp .ne (Z.1 209 2) 0 = true
  · rw [if_pos hc101] at h
    refine pG_ift (t := 8) rfl rfl hc101 ?_
    refine pG_many 2 (pc1 := 10) (L1 := [some (.ref 209), some (.ref p0), none, none, none]) (st1 := [.ref 209, .ref 209]) (M1 := mjTo Z) (fun _ _ => rfl) ?_
    refine pG_getI (ci := 1) (f := 1) rfl rfl (Or.inl rfl) (by rfl) (by decide) ?_
    by_cases hc102 : mjCmp .le (Z.1 209 1) 0 = true
    · rw [if_pos hc102] at h
      refine pG_ift (t := 25) rfl rfl hc102 ?_
      refine pG_many 1 (pc1 := 27) (L1 := [some (.ref 209), some (.ref p0), none, none, none]) (st1 := [.int 9, .ref 209]) (M1 := mjTo Z) (fun _ _ => rfl) ?_
      exact f10_takeBack_j27_ok p0 9 none none none Z v9 Z9 h
    · rw [if_neg hc102] at h
      refine pG_iff (t := 25) rfl rfl hc102 ?_
      refine pG_many 1 (pc1 := 17) (L1 := [some (.ref 209), some (.ref p0), none, none, none]) (st1 := [.ref 209, .ref 209]) (M1 := mjTo Z) (fun _ _ => rfl) ?_
      refine pG_getI (ci := 1) (f := 1) rfl rfl (Or.inl rfl) (by rfl) (by decide) ?_
      refine pG_many 3 (pc1 := 27) (L1 := [some (.ref 209), some (.ref p0), none, none, none]) (st1 := [.int ((Z.1 209 1) - 1), .ref 209]) (M1 := mjTo Z) (fun _ _ => rfl) ?_
      exact f10_takeBack_j27_ok p0 ((Z.1 209 1) - 1) none none none Z v9 Z9 h
  · rw [if_neg hc101] at h
    refine pG_iff (t := 8) rfl rfl hc101 ?_
    simp only [Option.some.injEq, Prod.mk.injEq] at h
    obtain ⟨-, rfl⟩ := h
    exact pG_ret (r := none) rfl ⟨rfl, rfl⟩
def f325_fill_h5 : Nat → Nat → Int32 → Int32 → Int32 → mjZt → Option (Unit × mjZt)
  | 0, _, _, _, _, _ => none
  | n + 1, x0, x1, x2, x3, Z =>
    if mjCmp .ge x2 x3 = true then
      some ((), Z)
    else
      if mjIs x0 211 13 = true then
      if mjIn x2 (mjLay x0).2 = true then
      mjLet (zSi Z x0 (mjIx x2) x1) fun Z105 =>
      f325_fill_h5 n x0 x1 (x2 + 1) x3 Z105
      else none
      else none
theorem f325_fill_h5_ok : ∀ (n : Nat) (x0 : Nat) (x1 : Int32) (x2 : Int32) (x3 : Int32) (Z : mjZt) (v9 : Unit) (Z9 : mjZt), f325_fill_h5 n x0 x1 x2 x3 Z = some (v9, Z9) → pG 168 5 [some (.ref x0), some (.int x1), some (.int x2), some (.int x3)] [] (mjTo Z) (fun r M1 => r = none ∧ M1 = mjTo Z9)
  | 0, x0, x1, x2, x3, Z, v9, Z9, h => by rw [f325_fill_h5] at h; cases h
  | n + 1, x0, x1, x2, x3, Z, v9, Z9, h => by
      rw [f325_fill_h5] at h
      refine pG_many 2 (pc1 := 7) (L1 := [some (.ref x0), some (.int x1), some (.int x2), some (.int x3)]) (st1 := [.int x3, .int x2]) (M1 := mjTo Z) (fun _ _ => rfl) ?_
      by_cases hc102 : mjCmp .ge x2 x3 = true
      · rw [if_pos hc102] at h
        refine pG_cmt (t := 20) rfl rfl hc102 ?_
        simp only [Option.some.injEq, Prod.mk.injEq] at h
        obtain ⟨-, rfl⟩ := h
        exact pG_ret (r := none) rfl ⟨rfl, rfl⟩
      · rw [if_neg hc102] at h
        refine pG_cmf (t := 20) rfl rfl hc102 ?_
        refine pG_many 3 (pc1 := 13) (L1 := [some (.ref x0), some (.int x1), some (.int x2), some (.int x3)]) (st1 := [.int x1, .int x2, .ref x0]) (M1 := mjTo Z) (fun _ _ => rfl) ?_
        have hk103 : mjIs x0 211 13 = true := by
          by_cases q9 : mjIs x0 211 13 = true
          · exact q9
          · rw [if_neg q9] at h; cases h
        rw [if_pos hk103] at h
        have hk104 : mjIn x2 (mjLay x0).2 = true := by
          by_cases q9 : mjIn x2 (mjLay x0).2 = true
          · exact q9
          · rw [if_neg q9] at h; cases h
        rw [if_pos hk104] at h
        refine pG_ias rfl hk103 hk104 (?_ : pG 168 14 [some (.ref x0), some (.int x1), some (.int x2), some (.int x3)] [] (mjTo (zSi Z x0 (mjIx x2) x1)) _)
        rw [mjLet] at h
        generalize zSi Z x0 (mjIx x2) x1 = Z105 at h ⊢
        refine pG_many 2 (pc1 := 5) (L1 := [some (.ref x0), some (.int x1), some (.int (x2 + 1)), some (.int x3)]) (st1 := []) (M1 := mjTo Z105) (fun _ _ => rfl) ?_
        exact f325_fill_h5_ok n x0 x1 (x2 + 1) x3 Z105 v9 Z9 h
def f325_fill (p0 : Nat) (p1 : Int32) (Z : mjZt) : Option (Unit × mjZt) :=
  if mjIs p0 211 13 = true then
  f325_fill_h5 mjF p0 p1 0 (Int32.ofNat (mjLay p0).2) Z
  else none
theorem f325_fill_ok {p0 : Nat} {p1 : Int32} {Z : mjZt} {v9 : Unit} {Z9 : mjZt} (h : f325_fill p0 p1 Z = some (v9, Z9)) : pG 168 0 (mjEnt [.ref p0, .int p1] (mjML 168)) [] (mjTo Z) (fun r M1 => r = none ∧ M1 = mjTo Z9) := by
  unfold f325_fill at h
  show pG 168 0 [some (.ref p0), some (.int p1), none, none] [] (mjTo Z) _
  refine pG_many 3 (pc1 := 3) (L1 := [some (.ref p0), some (.int p1), some (.int 0), none]) (st1 := [.ref p0]) (M1 := mjTo Z) (fun _ _ => rfl) ?_
  have hk101 : mjIs p0 211 13 = true := by
    by_cases q9 : mjIs p0 211 13 = true
    · exact q9
    · rw [if_neg q9] at h; cases h
  rw [if_pos hk101] at h
  refine pG_lenS (c := 13) rfl (by decide) (by decide) hk101 ?_
  refine pG_many 1 (pc1 := 5) (L1 := [some (.ref p0), some (.int p1), some (.int 0), some (.int (Int32.ofNat (mjLay p0).2))]) (st1 := []) (M1 := mjTo Z) (fun _ _ => rfl) ?_
  exact f325_fill_h5_ok mjF p0 p1 0 (Int32.ofNat (mjLay p0).2) Z v9 Z9 h
def f14_clear (a0 : Nat) (Z : mjZt) : Option (Unit × mjZt) :=
  if mjIs a0 211 8 = true then
  mjLet (zSi Z a0 7 0) fun Z102 =>
  mjBd (f325_fill (a0 + 4) 0 Z102) fun _ Z105 =>
  mjBd (f325_fill (a0 + 5) 0 Z105) fun _ Z108 =>
  mjBd (f325_fill (a0 + 6) 0 Z108) fun _ Z111 =>
  some ((), Z111)
  else none
theorem f14_clear_ok {a0 : Nat} {Z : mjZt} {v9 : Unit} {Z9 : mjZt} (h : f14_clear a0 Z = some (v9, Z9)) : pG 14 0 (mjEnt [.ref a0] (mjML 14)) [] (mjTo Z) (fun r M1 => r = none ∧ M1 = mjTo Z9) := by
  unfold f14_clear at h
  show pG 14 0 [some (.ref a0)] [] (mjTo Z) _
  refine pG_many 2 (pc1 := 2) (L1 := [some (.ref a0)]) (st1 := [.int 0, .ref a0]) (M1 := mjTo Z) (fun _ _ => rfl) ?_
  have hk101 : mjIs a0 211 8 = true := by
    by_cases q9 : mjIs a0 211 8 = true
    · exact q9
    · rw [if_neg q9] at h; cases h
  rw [if_pos hk101] at h
  refine pG_putI (ci := 8) (f := 7) rfl rfl rfl rfl hk101 (by decide) ?_
  rw [mjLet] at h
  generalize zSi Z a0 7 0 = Z102 at h ⊢
  refine pG_many 1 (pc1 := 6) (L1 := [some (.ref a0)]) (st1 := [.ref a0]) (M1 := mjTo Z102) (fun _ _ => rfl) ?_
  refine pG_getR (ci := 8) (f := 3) (b := a0 + 4) rfl rfl rfl hk101 (by decide) (mjRc8_3 hk101) ?_
  refine pG_many 1 (pc1 := 10) (L1 := [some (.ref a0)]) (st1 := [.int 0, .ref (a0 + 4)]) (M1 := mjTo Z102) (fun _ _ => rfl) ?_
  cases hq103 : f325_fill (a0 + 4) 0 Z102 with
  | none => rw [hq103] at h; cases h
  | some w =>
    obtain ⟨v104, Z105⟩ := w
    rw [hq103, mjBd_some] at h
    refine pG_call (k2 := 168) (As := [.ref (a0 + 4), .int 0]) (rest := []) (fun _ _ => rfl) (by decide) (by decide) (f325_fill_ok hq103) ?_
    rintro r9 M9 ⟨rfl, rfl⟩
    show pG 14 13 [some (.ref a0)] [] (mjTo Z105) _
    refine pG_many 1 (pc1 := 14) (L1 := [some (.ref a0)]) (st1 := [.ref a0]) (M1 := mjTo Z105) (fun _ _ => rfl) ?_
    refine pG_getR (ci := 8) (f := 4) (b := a0 + 5) rfl rfl rfl hk101 (by decide) (mjRc8_4 hk101) ?_
    refine pG_many 1 (pc1 := 18) (L1 := [some (.ref a0)]) (st1 := [.int 0, .ref (a0 + 5)]) (M1 := mjTo Z105) (fun _ _ => rfl) ?_
    cases hq106 : f325_fill (a0 + 5) 0 Z105 with
    | none => rw [hq106] at h; cases h
    | some w =>
      obtain ⟨v107, Z108⟩ := w
      rw [hq106, mjBd_some] at h
      refine pG_call (k2 := 168) (As := [.ref (a0 + 5), .int 0]) (rest := []) (fun _ _ => rfl) (by decide) (by decide) (f325_fill_ok hq106) ?_
      rintro r9 M9 ⟨rfl, rfl⟩
      show pG 14 21 [some (.ref a0)] [] (mjTo Z108) _
      refine pG_many 1 (pc1 := 22) (L1 := [some (.ref a0)]) (st1 := [.ref a0]) (M1 := mjTo Z108) (fun _ _ => rfl) ?_
      refine pG_getR (ci := 8) (f := 5) (b := a0 + 6) rfl rfl rfl hk101 (by decide) (mjRc8_5 hk101) ?_
      refine pG_many 1 (pc1 := 26) (L1 := [some (.ref a0)]) (st1 := [.int 0, .ref (a0 + 6)]) (M1 := mjTo Z108) (fun _ _ => rfl) ?_
      cases hq109 : f325_fill (a0 + 6) 0 Z108 with
      | none => rw [hq109] at h; cases h
      | some w =>
        obtain ⟨v110, Z111⟩ := w
        rw [hq109, mjBd_some] at h
        refine pG_call (k2 := 168) (As := [.ref (a0 + 6), .int 0]) (rest := []) (fun _ _ => rfl) (by decide) (by decide) (f325_fill_ok hq109) ?_
        rintro r9 M9 ⟨rfl, rfl⟩
        show pG 14 29 [some (.ref a0)] [] (mjTo Z111) _
        simp only [Option.some.injEq, Prod.mk.injEq] at h
        obtain ⟨-, rfl⟩ := h
        exact pG_ret (r := none) rfl ⟨rfl, rfl⟩
def f15_clear (a0 : Nat) (Z : mjZt) : Option (Unit × mjZt) :=
  if mjIs a0 211 2 = true then
  mjLet (zSi Z a0 0 0) fun Z102 =>
  mjLet (zSi Z102 a0 1 0) fun Z103 =>
  mjLet (zSi Z103 a0 2 0) fun Z104 =>
  mjLet (zSi Z104 a0 3 0) fun Z105 =>
  mjLet (zSi Z105 a0 4 0) fun Z106 =>
  mjLet (zSi Z106 a0 5 0) fun Z107 =>
  mjLet (zSi Z107 a0 6 0) fun Z108 =>
  mjLet (zSi Z108 a0 7 0) fun Z109 =>
  mjLet (zSi Z109 a0 8 0) fun Z110 =>
  mjLet (zSi Z110 a0 9 2) fun Z111 =>
  mjLet (zSi Z111 a0 10 5) fun Z112 =>
  mjLet (zSl Z112 a0 11 0) fun Z113 =>
  if mjIs (a0 + 1) 211 8 = true then
  mjBd (f14_clear (a0 + 1) Z113) fun _ Z117 =>
  some ((), Z117)
  else none
  else none
theorem f15_clear_ok {a0 : Nat} {Z : mjZt} {v9 : Unit} {Z9 : mjZt} (h : f15_clear a0 Z = some (v9, Z9)) : pG 15 0 (mjEnt [.ref a0] (mjML 15)) [] (mjTo Z) (fun r M1 => r = none ∧ M1 = mjTo Z9) := by
  unfold f15_clear at h
  show pG 15 0 [some (.ref a0)] [] (mjTo Z) _
  refine pG_many 2 (pc1 := 2) (L1 := [some (.ref a0)]) (st1 := [.int 0, .ref a0]) (M1 := mjTo Z) (fun _ _ => rfl) ?_
  have hk101 : mjIs a0 211 2 = true := by
    by_cases q9 : mjIs a0 211 2 = true
    · exact q9
    · rw [if_neg q9] at h; cases h
  rw [if_pos hk101] at h
  refine pG_putI (ci := 2) (f := 0) rfl rfl rfl rfl hk101 (by decide) ?_
  rw [mjLet] at h
  generalize zSi Z a0 0 0 = Z102 at h ⊢
  refine pG_many 2 (pc1 := 7) (L1 := [some (.ref a0)]) (st1 := [.int 0, .ref a0]) (M1 := mjTo Z102) (fun _ _ => rfl) ?_
  refine pG_putI (ci := 2) (f := 1) rfl rfl rfl rfl hk101 (by decide) ?_
  rw [mjLet] at h
  generalize zSi Z102 a0 1 0 = Z103 at h ⊢
  refine pG_many 2 (pc1 := 12) (L1 := [some (.ref a0)]) (st1 := [.int 0, .ref a0]) (M1 := mjTo Z103) (fun _ _ => rfl) ?_
  refine pG_putI (ci := 2) (f := 2) rfl rfl rfl rfl hk101 (by decide) ?_
  rw [mjLet] at h
  generalize zSi Z103 a0 2 0 = Z104 at h ⊢
  refine pG_many 2 (pc1 := 17) (L1 := [some (.ref a0)]) (st1 := [.int 0, .ref a0]) (M1 := mjTo Z104) (fun _ _ => rfl) ?_
  refine pG_putI (ci := 2) (f := 3) rfl rfl rfl rfl hk101 (by decide) ?_
  rw [mjLet] at h
  generalize zSi Z104 a0 3 0 = Z105 at h ⊢
  refine pG_many 2 (pc1 := 22) (L1 := [some (.ref a0)]) (st1 := [.int 0, .ref a0]) (M1 := mjTo Z105) (fun _ _ => rfl) ?_
  refine pG_putI (ci := 2) (f := 4) rfl rfl rfl rfl hk101 (by decide) ?_
  rw [mjLet] at h
  generalize zSi Z105 a0 4 0 = Z106 at h ⊢
  refine pG_many 2 (pc1 := 27) (L1 := [some (.ref a0)]) (st1 := [.int 0, .ref a0]) (M1 := mjTo Z106) (fun _ _ => rfl) ?_
  refine pG_putI (ci := 2) (f := 5) rfl rfl rfl rfl hk101 (by decide) ?_
  rw [mjLet] at h
  generalize zSi Z106 a0 5 0 = Z107 at h ⊢
  refine pG_many 2 (pc1 := 32) (L1 := [some (.ref a0)]) (st1 := [.int 0, .ref a0]) (M1 := mjTo Z107) (fun _ _ => rfl) ?_
  refine pG_putI (ci := 2) (f := 6) rfl rfl rfl rfl hk101 (by decide) ?_
  rw [mjLet] at h
  generalize zSi Z107 a0 6 0 = Z108 at h ⊢
  refine pG_many 2 (pc1 := 37) (L1 := [some (.ref a0)]) (st1 := [.int 0, .ref a0]) (M1 := mjTo Z108) (fun _ _ => rfl) ?_
  refine pG_putI (ci := 2) (f := 7) rfl rfl rfl rfl hk101 (by decide) ?_
  rw [mjLet] at h
  generalize zSi Z108 a0 7 0 = Z109 at h ⊢
  refine pG_many 2 (pc1 := 42) (L1 := [some (.ref a0)]) (st1 := [.int 0, .ref a0]) (M1 := mjTo Z109) (fun _ _ => rfl) ?_
  refine pG_putI (ci := 2) (f := 8) rfl rfl rfl rfl hk101 (by decide) ?_
  rw [mjLet] at h
  generalize zSi Z109 a0 8 0 = Z110 at h ⊢
  refine pG_many 2 (pc1 := 47) (L1 := [some (.ref a0)]) (st1 := [.int 2, .ref a0]) (M1 := mjTo Z110) (fun _ _ => rfl) ?_
  refine pG_putI (ci := 2) (f := 9) rfl rfl rfl rfl hk101 (by decide) ?_
  rw [mjLet] at h
  generalize zSi Z110 a0 9 2 = Z111 at h ⊢
  refine pG_many 2 (pc1 := 52) (L1 := [some (.ref a0)]) (st1 := [.int 5, .ref a0]) (M1 := mjTo Z111) (fun _ _ => rfl) ?_
  refine pG_putI (ci := 2) (f := 10) rfl rfl rfl rfl hk101 (by decide) ?_
  rw [mjLet] at h
  generalize zSi Z111 a0 10 5 = Z112 at h ⊢
  refine pG_many 2 (pc1 := 57) (L1 := [some (.ref a0)]) (st1 := [.long 0, .ref a0]) (M1 := mjTo Z112) (fun _ _ => rfl) ?_
  refine pG_putL (ci := 2) (f := 11) rfl rfl rfl rfl hk101 (by decide) ?_
  rw [mjLet] at h
  generalize zSl Z112 a0 11 0 = Z113 at h ⊢
  refine pG_many 1 (pc1 := 61) (L1 := [some (.ref a0)]) (st1 := [.ref a0]) (M1 := mjTo Z113) (fun _ _ => rfl) ?_
  refine pG_getR (ci := 2) (f := 12) (b := a0 + 1) rfl rfl rfl hk101 (by decide) (mjRc2_12 hk101) ?_
  have hk114 : mjIs (a0 + 1) 211 8 = true := by
    by_cases q9 : mjIs (a0 + 1) 211 8 = true
    · exact q9
    · rw [if_neg q9] at h; cases h
  rw [if_pos hk114] at h
  cases hq115 : f14_clear (a0 + 1) Z113 with
  | none => rw [hq115] at h; cases h
  | some w =>
    obtain ⟨v116, Z117⟩ := w
    rw [hq115, mjBd_some] at h
    refine pG_callV (k2 := 14) (As := [.ref (a0 + 1)]) (rest := []) rfl rfl rfl rfl rfl (mjRcv_is hk114 (by decide)) (by decide) (by decide) (f14_clear_ok hq115) ?_
    rintro r9 M9 ⟨rfl, rfl⟩
    show pG 15 67 [some (.ref a0)] [] (mjTo Z117) _
    simp only [Option.some.injEq, Prod.mk.injEq] at h
    obtain ⟨-, rfl⟩ := h
    exact pG_ret (r := none) rfl ⟨rfl, rfl⟩
def f16_hasRule (a0 : Nat) (p0 : Int32) (Z : mjZt) : Option Int32 :=
  if mjCmp .lt p0 0 = true then
    some 0
  else
    if mjIs a0 211 2 = true then
    if mjCmp .ge p0 (Z.1 a0 8) = true then
      some 0
    else
      if mjCmp .ge p0 8 = true then
        some 0
      else
        some 1
    else none
theorem f16_hasRule_ok {a0 : Nat} {p0 : Int32} {Z : mjZt} {v9 : Int32} (h : f16_hasRule a0 p0 Z = some v9) : pG 16 0 (mjEnt [.ref a0, .int p0] (mjML 16)) [] (mjTo Z) (fun r M1 => r = some (.int v9) ∧ M1 = mjTo Z) := by
  unfold f16_hasRule at h
  show pG 16 0 [some (.ref a0), some (.int p0)] [] (mjTo Z) _
  refine pG_many 1 (pc1 := 1) (L1 := [some (.ref a0), some (.int p0)]) (st1 := [.int p0]) (M1 := mjTo Z) (fun _ _ => rfl) ?_
  by_cases hc101 : mjCmp .lt p0 0 = true
  · rw [if_pos hc101] at h
    refine pG_ift (t := 22) rfl rfl hc101 ?_
    refine pG_many 1 (pc1 := 23) (L1 := [some (.ref a0), some (.int p0)]) (st1 := [.int 0]) (M1 := mjTo Z) (fun _ _ => rfl) ?_
    simp only [Option.some.injEq] at h
    subst h
    exact pG_ret (r := some (.int 0)) rfl ⟨rfl, rfl⟩
  · rw [if_neg hc101] at h
    refine pG_iff (t := 22) rfl rfl hc101 ?_
    refine pG_many 2 (pc1 := 6) (L1 := [some (.ref a0), some (.int p0)]) (st1 := [.ref a0, .int p0]) (M1 := mjTo Z) (fun _ _ => rfl) ?_
    have hk102 : mjIs a0 211 2 = true := by
      by_cases q9 : mjIs a0 211 2 = true
      · exact q9
      · rw [if_neg q9] at h; cases h
    rw [if_pos hk102] at h
    refine pG_getI (ci := 2) (f := 8) rfl rfl (Or.inl rfl) hk102 (by decide) ?_
    by_cases hc103 : mjCmp .ge p0 (Z.1 a0 8) = true
    · rw [if_pos hc103] at h
      refine pG_cmt (t := 22) rfl rfl hc103 ?_
      refine pG_many 1 (pc1 := 23) (L1 := [some (.ref a0), some (.int p0)]) (st1 := [.int 0]) (M1 := mjTo Z) (fun _ _ => rfl) ?_
      simp only [Option.some.injEq] at h
      subst h
      exact pG_ret (r := some (.int 0)) rfl ⟨rfl, rfl⟩
    · rw [if_neg hc103] at h
      refine pG_cmf (t := 22) rfl rfl hc103 ?_
      refine pG_many 2 (pc1 := 15) (L1 := [some (.ref a0), some (.int p0)]) (st1 := [.int 8, .int p0]) (M1 := mjTo Z) (fun _ _ => rfl) ?_
      by_cases hc104 : mjCmp .ge p0 8 = true
      · rw [if_pos hc104] at h
        refine pG_cmt (t := 22) rfl rfl hc104 ?_
        refine pG_many 1 (pc1 := 23) (L1 := [some (.ref a0), some (.int p0)]) (st1 := [.int 0]) (M1 := mjTo Z) (fun _ _ => rfl) ?_
        simp only [Option.some.injEq] at h
        subst h
        exact pG_ret (r := some (.int 0)) rfl ⟨rfl, rfl⟩
      · rw [if_neg hc104] at h
        refine pG_cmf (t := 22) rfl rfl hc104 ?_
        refine pG_many 2 (pc1 := 23) (L1 := [some (.ref a0), some (.int p0)]) (st1 := [.int 1]) (M1 := mjTo Z) (fun _ _ => rfl) ?_
        simp only [Option.some.injEq] at h
        subst h
        exact pG_ret (r := some (.int 1)) rfl ⟨rfl, rfl⟩
def f17_hasAct (a0 : Nat) (p0 : Int32) (Z : mjZt) : Option Int32 :=
  if mjCmp .lt p0 0 = true then
    some 0
  else
    if mjIs a0 211 2 = true then
    if mjCmp .ge p0 (Z.1 a0 7) = true then
      some 0
    else
      if mjCmp .ge p0 42 = true then
        some 0
      else
        some 1
    else none
theorem f17_hasAct_ok {a0 : Nat} {p0 : Int32} {Z : mjZt} {v9 : Int32} (h : f17_hasAct a0 p0 Z = some v9) : pG 17 0 (mjEnt [.ref a0, .int p0] (mjML 17)) [] (mjTo Z) (fun r M1 => r = some (.int v9) ∧ M1 = mjTo Z) := by
  unfold f17_hasAct at h
  show pG 17 0 [some (.ref a0), some (.int p0)] [] (mjTo Z) _
  refine pG_many 1 (pc1 := 1) (L1 := [some (.ref a0), some (.int p0)]) (st1 := [.int p0]) (M1 := mjTo Z) (fun _ _ => rfl) ?_
  by_cases hc101 : mjCmp .lt p0 0 = true
  · rw [if_pos hc101] at h
    refine pG_ift (t := 22) rfl rfl hc101 ?_
    refine pG_many 1 (pc1 := 23) (L1 := [some (.ref a0), some (.int p0)]) (st1 := [.int 0]) (M1 := mjTo Z) (fun _ _ => rfl) ?_
    simp only [Option.some.injEq] at h
    subst h
    exact pG_ret (r := some (.int 0)) rfl ⟨rfl, rfl⟩
  · rw [if_neg hc101] at h
    refine pG_iff (t := 22) rfl rfl hc101 ?_
    refine pG_many 2 (pc1 := 6) (L1 := [some (.ref a0), some (.int p0)]) (st1 := [.ref a0, .int p0]) (M1 := mjTo Z) (fun _ _ => rfl) ?_
    have hk102 : mjIs a0 211 2 = true := by
      by_cases q9 : mjIs a0 211 2 = true
      · exact q9
      · rw [if_neg q9] at h; cases h
    rw [if_pos hk102] at h
    refine pG_getI (ci := 2) (f := 7) rfl rfl (Or.inl rfl) hk102 (by decide) ?_
    by_cases hc103 : mjCmp .ge p0 (Z.1 a0 7) = true
    · rw [if_pos hc103] at h
      refine pG_cmt (t := 22) rfl rfl hc103 ?_
      refine pG_many 1 (pc1 := 23) (L1 := [some (.ref a0), some (.int p0)]) (st1 := [.int 0]) (M1 := mjTo Z) (fun _ _ => rfl) ?_
      simp only [Option.some.injEq] at h
      subst h
      exact pG_ret (r := some (.int 0)) rfl ⟨rfl, rfl⟩
    · rw [if_neg hc103] at h
      refine pG_cmf (t := 22) rfl rfl hc103 ?_
      refine pG_many 2 (pc1 := 15) (L1 := [some (.ref a0), some (.int p0)]) (st1 := [.int 42, .int p0]) (M1 := mjTo Z) (fun _ _ => rfl) ?_
      by_cases hc104 : mjCmp .ge p0 42 = true
      · rw [if_pos hc104] at h
        refine pG_cmt (t := 22) rfl rfl hc104 ?_
        refine pG_many 1 (pc1 := 23) (L1 := [some (.ref a0), some (.int p0)]) (st1 := [.int 0]) (M1 := mjTo Z) (fun _ _ => rfl) ?_
        simp only [Option.some.injEq] at h
        subst h
        exact pG_ret (r := some (.int 0)) rfl ⟨rfl, rfl⟩
      · rw [if_neg hc104] at h
        refine pG_cmf (t := 22) rfl rfl hc104 ?_
        refine pG_many 2 (pc1 := 23) (L1 := [some (.ref a0), some (.int p0)]) (st1 := [.int 1]) (M1 := mjTo Z) (fun _ _ => rfl) ?_
        simp only [Option.some.injEq] at h
        subst h
        exact pG_ret (r := some (.int 1)) rfl ⟨rfl, rfl⟩
def f18_wasTold (a0 : Nat) (p0 : Int32) (Z : mjZt) : Option Int32 :=
  if mjCmp .lt p0 0 = true then
    some 0
  else
    if mjIs a0 211 2 = true then
    if mjCmp .ge p0 (Z.1 a0 6) = true then
      some 0
    else
      if mjCmp .ge p0 42 = true then
        some 0
      else
        some 1
    else none
theorem f18_wasTold_ok {a0 : Nat} {p0 : Int32} {Z : mjZt} {v9 : Int32} (h : f18_wasTold a0 p0 Z = some v9) : pG 18 0 (mjEnt [.ref a0, .int p0] (mjML 18)) [] (mjTo Z) (fun r M1 => r = some (.int v9) ∧ M1 = mjTo Z) := by
  unfold f18_wasTold at h
  show pG 18 0 [some (.ref a0), some (.int p0)] [] (mjTo Z) _
  refine pG_many 1 (pc1 := 1) (L1 := [some (.ref a0), some (.int p0)]) (st1 := [.int p0]) (M1 := mjTo Z) (fun _ _ => rfl) ?_
  by_cases hc101 : mjCmp .lt p0 0 = true
  · rw [if_pos hc101] at h
    refine pG_ift (t := 22) rfl rfl hc101 ?_
    refine pG_many 1 (pc1 := 23) (L1 := [some (.ref a0), some (.int p0)]) (st1 := [.int 0]) (M1 := mjTo Z) (fun _ _ => rfl) ?_
    simp only [Option.some.injEq] at h
    subst h
    exact pG_ret (r := some (.int 0)) rfl ⟨rfl, rfl⟩
  · rw [if_neg hc101] at h
    refine pG_iff (t := 22) rfl rfl hc101 ?_
    refine pG_many 2 (pc1 := 6) (L1 := [some (.ref a0), some (.int p0)]) (st1 := [.ref a0, .int p0]) (M1 := mjTo Z) (fun _ _ => rfl) ?_
    have hk102 : mjIs a0 211 2 = true := by
      by_cases q9 : mjIs a0 211 2 = true
      · exact q9
      · rw [if_neg q9] at h; cases h
    rw [if_pos hk102] at h
    refine pG_getI (ci := 2) (f := 6) rfl rfl (Or.inl rfl) hk102 (by decide) ?_
    by_cases hc103 : mjCmp .ge p0 (Z.1 a0 6) = true
    · rw [if_pos hc103] at h
      refine pG_cmt (t := 22) rfl rfl hc103 ?_
      refine pG_many 1 (pc1 := 23) (L1 := [some (.ref a0), some (.int p0)]) (st1 := [.int 0]) (M1 := mjTo Z) (fun _ _ => rfl) ?_
      simp only [Option.some.injEq] at h
      subst h
      exact pG_ret (r := some (.int 0)) rfl ⟨rfl, rfl⟩
    · rw [if_neg hc103] at h
      refine pG_cmf (t := 22) rfl rfl hc103 ?_
      refine pG_many 2 (pc1 := 15) (L1 := [some (.ref a0), some (.int p0)]) (st1 := [.int 42, .int p0]) (M1 := mjTo Z) (fun _ _ => rfl) ?_
      by_cases hc104 : mjCmp .ge p0 42 = true
      · rw [if_pos hc104] at h
        refine pG_cmt (t := 22) rfl rfl hc104 ?_
        refine pG_many 1 (pc1 := 23) (L1 := [some (.ref a0), some (.int p0)]) (st1 := [.int 0]) (M1 := mjTo Z) (fun _ _ => rfl) ?_
        simp only [Option.some.injEq] at h
        subst h
        exact pG_ret (r := some (.int 0)) rfl ⟨rfl, rfl⟩
      · rw [if_neg hc104] at h
        refine pG_cmf (t := 22) rfl rfl hc104 ?_
        refine pG_many 2 (pc1 := 23) (L1 := [some (.ref a0), some (.int p0)]) (st1 := [.int 1]) (M1 := mjTo Z) (fun _ _ => rfl) ?_
        simp only [Option.some.injEq] at h
        subst h
        exact pG_ret (r := some (.int 1)) rfl ⟨rfl, rfl⟩
def f19_hasLeg (a0 : Nat) (p0 : Int32) (p1 : Int32) (Z : mjZt) : Option Int32 :=
  if mjIs a0 211 2 = true then
  mjBp (f7_hasTeam a0 p0 Z) fun v103 =>
  if mjCmp .eq v103 0 = true then
    some 0
  else
    if mjCmp .lt p1 1 = true then
      some 0
    else
      mjBp (f8_runner a0 p0 Z) fun v108 =>
      if mjIs v108 211 7 = true then
      if mjCmp .gt p1 (Z.1 v108 6) = true then
        some 0
      else
        some 1
      else none
  else none
theorem f19_hasLeg_ok {a0 : Nat} {p0 : Int32} {p1 : Int32} {Z : mjZt} {v9 : Int32} (h : f19_hasLeg a0 p0 p1 Z = some v9) : pG 19 0 (mjEnt [.ref a0, .int p0, .int p1] (mjML 19)) [] (mjTo Z) (fun r M1 => r = some (.int v9) ∧ M1 = mjTo Z) := by
  unfold f19_hasLeg at h
  show pG 19 0 [some (.ref a0), some (.int p0), some (.int p1)] [] (mjTo Z) _
  refine pG_many 2 (pc1 := 2) (L1 := [some (.ref a0), some (.int p0), some (.int p1)]) (st1 := [.int p0, .ref a0]) (M1 := mjTo Z) (fun _ _ => rfl) ?_
  have hk101 : mjIs a0 211 2 = true := by
    by_cases q9 : mjIs a0 211 2 = true
    · exact q9
    · rw [if_neg q9] at h; cases h
  rw [if_pos hk101] at h
  cases hq102 : f7_hasTeam a0 p0 Z with
  | none => rw [hq102] at h; cases h
  | some v103 =>
    rw [hq102, mjBp_some] at h
    refine pG_callV (k2 := 7) (As := [.ref a0, .int p0]) (rest := []) rfl rfl rfl rfl rfl (mjRcv_is hk101 (by decide)) (by decide) (by decide) (f7_hasTeam_ok hq102) ?_
    rintro r9 M9 ⟨rfl, rfl⟩
    show pG 19 5 [some (.ref a0), some (.int p0), some (.int p1)] [.int v103] (mjTo Z) _
    by_cases hc105 : mjCmp .eq v103 0 = true
    · rw [if_pos hc105] at h
      refine pG_ift (t := 29) rfl rfl hc105 ?_
      refine pG_many 1 (pc1 := 30) (L1 := [some (.ref a0), some (.int p0), some (.int p1)]) (st1 := [.int 0]) (M1 := mjTo Z) (fun _ _ => rfl) ?_
      simp only [Option.some.injEq] at h
      subst h
      exact pG_ret (r := some (.int 0)) rfl ⟨rfl, rfl⟩
    · rw [if_neg hc105] at h
      refine pG_iff (t := 29) rfl rfl hc105 ?_
      refine pG_many 2 (pc1 := 10) (L1 := [some (.ref a0), some (.int p0), some (.int p1)]) (st1 := [.int 1, .int p1]) (M1 := mjTo Z) (fun _ _ => rfl) ?_
      by_cases hc106 : mjCmp .lt p1 1 = true
      · rw [if_pos hc106] at h
        refine pG_cmt (t := 29) rfl rfl hc106 ?_
        refine pG_many 1 (pc1 := 30) (L1 := [some (.ref a0), some (.int p0), some (.int p1)]) (st1 := [.int 0]) (M1 := mjTo Z) (fun _ _ => rfl) ?_
        simp only [Option.some.injEq] at h
        subst h
        exact pG_ret (r := some (.int 0)) rfl ⟨rfl, rfl⟩
      · rw [if_neg hc106] at h
        refine pG_cmf (t := 29) rfl rfl hc106 ?_
        refine pG_many 3 (pc1 := 16) (L1 := [some (.ref a0), some (.int p0), some (.int p1)]) (st1 := [.int p0, .ref a0, .int p1]) (M1 := mjTo Z) (fun _ _ => rfl) ?_
        cases hq107 : f8_runner a0 p0 Z with
        | none => rw [hq107] at h; cases h
        | some v108 =>
          rw [hq107, mjBp_some] at h
          refine pG_callV (k2 := 8) (As := [.ref a0, .int p0]) (rest := [.int p1]) rfl rfl rfl rfl rfl (mjRcv_is hk101 (by decide)) (by decide) (by decide) (f8_runner_ok hq107) ?_
          rintro r9 M9 ⟨rfl, rfl⟩
          show pG 19 19 [some (.ref a0), some (.int p0), some (.int p1)] [.ref v108, .int p1] (mjTo Z) _
          have hk110 : mjIs v108 211 7 = true := by
            by_cases q9 : mjIs v108 211 7 = true
            · exact q9
            · rw [if_neg q9] at h; cases h
          rw [if_pos hk110] at h
          refine pG_getI (ci := 7) (f := 6) rfl rfl (Or.inl rfl) hk110 (by decide) ?_
          by_cases hc111 : mjCmp .gt p1 (Z.1 v108 6) = true
          · rw [if_pos hc111] at h
            refine pG_cmt (t := 29) rfl rfl hc111 ?_
            refine pG_many 1 (pc1 := 30) (L1 := [some (.ref a0), some (.int p0), some (.int p1)]) (st1 := [.int 0]) (M1 := mjTo Z) (fun _ _ => rfl) ?_
            simp only [Option.some.injEq] at h
            subst h
            exact pG_ret (r := some (.int 0)) rfl ⟨rfl, rfl⟩
          · rw [if_neg hc111] at h
            refine pG_cmf (t := 29) rfl rfl hc111 ?_
            refine pG_many 2 (pc1 := 30) (L1 := [some (.ref a0), some (.int p0), some (.int p1)]) (st1 := [.int 1]) (M1 := mjTo Z) (fun _ _ => rfl) ?_
            simp only [Option.some.injEq] at h
            subst h
            exact pG_ret (r := some (.int 1)) rfl ⟨rfl, rfl⟩
def f20_kindOfRule (a0 : Nat) (p0 : Int32) (Z : mjZt) : Option Int32 :=
  if mjIs a0 211 2 = true then
  mjBp (f5_at (a0 + 11) p0 Z) fun v103 =>
  some v103
  else none
theorem f20_kindOfRule_ok {a0 : Nat} {p0 : Int32} {Z : mjZt} {v9 : Int32} (h : f20_kindOfRule a0 p0 Z = some v9) : pG 20 0 (mjEnt [.ref a0, .int p0] (mjML 20)) [] (mjTo Z) (fun r M1 => r = some (.int v9) ∧ M1 = mjTo Z) := by
  unfold f20_kindOfRule at h
  show pG 20 0 [some (.ref a0), some (.int p0)] [] (mjTo Z) _
  refine pG_many 1 (pc1 := 1) (L1 := [some (.ref a0), some (.int p0)]) (st1 := [.ref a0]) (M1 := mjTo Z) (fun _ _ => rfl) ?_
  have hk101 : mjIs a0 211 2 = true := by
    by_cases q9 : mjIs a0 211 2 = true
    · exact q9
    · rw [if_neg q9] at h; cases h
  rw [if_pos hk101] at h
  refine pG_getR (ci := 2) (f := 16) (b := a0 + 11) rfl rfl rfl hk101 (by decide) (mjRc2_16 hk101) ?_
  refine pG_many 1 (pc1 := 5) (L1 := [some (.ref a0), some (.int p0)]) (st1 := [.int p0, .ref (a0 + 11)]) (M1 := mjTo Z) (fun _ _ => rfl) ?_
  cases hq102 : f5_at (a0 + 11) p0 Z with
  | none => rw [hq102] at h; cases h
  | some v103 =>
    rw [hq102, mjBp_some] at h
    refine pG_call (k2 := 5) (As := [.ref (a0 + 11), .int p0]) (rest := []) (fun _ _ => rfl) (by decide) (by decide) (f5_at_ok hq102) ?_
    rintro r9 M9 ⟨rfl, rfl⟩
    show pG 20 8 [some (.ref a0), some (.int p0)] [.int v103] (mjTo Z) _
    simp only [Option.some.injEq] at h
    subst h
    exact pG_ret (r := some (.int v103)) rfl ⟨rfl, rfl⟩
def f21_longAt (p0 : Nat) (p1 : Int32) (Z : mjZt) : Option Int64 :=
  if mjCmp .lt p1 0 = true then
    some 0
  else
    if mjIs p0 211 14 = true then
    if mjCmp .ge p1 (Int32.ofNat (mjLay p0).2) = true then
      some 0
    else
      if mjIn p1 (mjLay p0).2 = true then
      some (Z.2.1 p0 (mjIx p1))
      else none
    else none
theorem f21_longAt_ok {p0 : Nat} {p1 : Int32} {Z : mjZt} {v9 : Int64} (h : f21_longAt p0 p1 Z = some v9) : pG 21 0 (mjEnt [.ref p0, .int p1] (mjML 21)) [] (mjTo Z) (fun r M1 => r = some (.long v9) ∧ M1 = mjTo Z) := by
  unfold f21_longAt at h
  show pG 21 0 [some (.ref p0), some (.int p1)] [] (mjTo Z) _
  refine pG_many 1 (pc1 := 1) (L1 := [some (.ref p0), some (.int p1)]) (st1 := [.int p1]) (M1 := mjTo Z) (fun _ _ => rfl) ?_
  by_cases hc101 : mjCmp .lt p1 0 = true
  · rw [if_pos hc101] at h
    refine pG_ift (t := 16) rfl rfl hc101 ?_
    refine pG_many 1 (pc1 := 17) (L1 := [some (.ref p0), some (.int p1)]) (st1 := [.long 0]) (M1 := mjTo Z) (fun _ _ => rfl) ?_
    simp only [Option.some.injEq] at h
    subst h
    exact pG_ret (r := some (.long 0)) rfl ⟨rfl, rfl⟩
  · rw [if_neg hc101] at h
    refine pG_iff (t := 16) rfl rfl hc101 ?_
    refine pG_many 2 (pc1 := 6) (L1 := [some (.ref p0), some (.int p1)]) (st1 := [.ref p0, .int p1]) (M1 := mjTo Z) (fun _ _ => rfl) ?_
    have hk102 : mjIs p0 211 14 = true := by
      by_cases q9 : mjIs p0 211 14 = true
      · exact q9
      · rw [if_neg q9] at h; cases h
    rw [if_pos hk102] at h
    refine pG_lenS (c := 14) rfl (by decide) (by decide) hk102 ?_
    by_cases hc103 : mjCmp .ge p1 (Int32.ofNat (mjLay p0).2) = true
    · rw [if_pos hc103] at h
      refine pG_cmt (t := 16) rfl rfl hc103 ?_
      refine pG_many 1 (pc1 := 17) (L1 := [some (.ref p0), some (.int p1)]) (st1 := [.long 0]) (M1 := mjTo Z) (fun _ _ => rfl) ?_
      simp only [Option.some.injEq] at h
      subst h
      exact pG_ret (r := some (.long 0)) rfl ⟨rfl, rfl⟩
    · rw [if_neg hc103] at h
      refine pG_cmf (t := 16) rfl rfl hc103 ?_
      refine pG_many 2 (pc1 := 12) (L1 := [some (.ref p0), some (.int p1)]) (st1 := [.int p1, .ref p0]) (M1 := mjTo Z) (fun _ _ => rfl) ?_
      have hk104 : mjIn p1 (mjLay p0).2 = true := by
        by_cases q9 : mjIn p1 (mjLay p0).2 = true
        · exact q9
        · rw [if_neg q9] at h; cases h
      rw [if_pos hk104] at h
      refine pG_lal rfl hk102 hk104 ?_
      refine pG_many 1 (pc1 := 17) (L1 := [some (.ref p0), some (.int p1)]) (st1 := [.long (Z.2.1 p0 (mjIx p1))]) (M1 := mjTo Z) (fun _ _ => rfl) ?_
      simp only [Option.some.injEq] at h
      subst h
      exact pG_ret (r := some (.long (Z.2.1 p0 (mjIx p1)))) rfl ⟨rfl, rfl⟩
def f22_nameOfRule (a0 : Nat) (p0 : Int32) (Z : mjZt) : Option Int64 :=
  if mjIs a0 211 2 = true then
  mjBp (f21_longAt (a0 + 10) p0 Z) fun v103 =>
  some v103
  else none
theorem f22_nameOfRule_ok {a0 : Nat} {p0 : Int32} {Z : mjZt} {v9 : Int64} (h : f22_nameOfRule a0 p0 Z = some v9) : pG 22 0 (mjEnt [.ref a0, .int p0] (mjML 22)) [] (mjTo Z) (fun r M1 => r = some (.long v9) ∧ M1 = mjTo Z) := by
  unfold f22_nameOfRule at h
  show pG 22 0 [some (.ref a0), some (.int p0)] [] (mjTo Z) _
  refine pG_many 1 (pc1 := 1) (L1 := [some (.ref a0), some (.int p0)]) (st1 := [.ref a0]) (M1 := mjTo Z) (fun _ _ => rfl) ?_
  have hk101 : mjIs a0 211 2 = true := by
    by_cases q9 : mjIs a0 211 2 = true
    · exact q9
    · rw [if_neg q9] at h; cases h
  rw [if_pos hk101] at h
  refine pG_getR (ci := 2) (f := 15) (b := a0 + 10) rfl rfl rfl hk101 (by decide) (mjRc2_15 hk101) ?_
  refine pG_many 1 (pc1 := 5) (L1 := [some (.ref a0), some (.int p0)]) (st1 := [.int p0, .ref (a0 + 10)]) (M1 := mjTo Z) (fun _ _ => rfl) ?_
  cases hq102 : f21_longAt (a0 + 10) p0 Z with
  | none => rw [hq102] at h; cases h
  | some v103 =>
    rw [hq102, mjBp_some] at h
    refine pG_call (k2 := 21) (As := [.ref (a0 + 10), .int p0]) (rest := []) (fun _ _ => rfl) (by decide) (by decide) (f21_longAt_ok hq102) ?_
    rintro r9 M9 ⟨rfl, rfl⟩
    show pG 22 8 [some (.ref a0), some (.int p0)] [.long v103] (mjTo Z) _
    simp only [Option.some.injEq] at h
    subst h
    exact pG_ret (r := some (.long v103)) rfl ⟨rfl, rfl⟩
def f23_isWhole (a0 : Nat) (p0 : Int32) (Z : mjZt) : Option Int32 :=
  if mjIs a0 211 2 = true then
  if mjCmp .le (Z.1 a0 0) 0 = true then
    some 0
  else
    mjBp (f8_runner a0 p0 Z) fun v104 =>
    if mjIs v104 211 7 = true then
    if mjCmp .ne (Z.1 v104 6) (Z.1 a0 0) = true then
      some 0
    else
      some 1
    else none
  else none
theorem f23_isWhole_ok {a0 : Nat} {p0 : Int32} {Z : mjZt} {v9 : Int32} (h : f23_isWhole a0 p0 Z = some v9) : pG 23 0 (mjEnt [.ref a0, .int p0] (mjML 23)) [] (mjTo Z) (fun r M1 => r = some (.int v9) ∧ M1 = mjTo Z) := by
  unfold f23_isWhole at h
  show pG 23 0 [some (.ref a0), some (.int p0)] [] (mjTo Z) _
  refine pG_many 1 (pc1 := 1) (L1 := [some (.ref a0), some (.int p0)]) (st1 := [.ref a0]) (M1 := mjTo Z) (fun _ _ => rfl) ?_
  have hk101 : mjIs a0 211 2 = true := by
    by_cases q9 : mjIs a0 211 2 = true
    · exact q9
    · rw [if_neg q9] at h; cases h
  rw [if_pos hk101] at h
  refine pG_getI (ci := 2) (f := 0) rfl rfl (Or.inl rfl) hk101 (by decide) ?_
  by_cases hc102 : mjCmp .le (Z.1 a0 0) 0 = true
  · rw [if_pos hc102] at h
    refine pG_ift (t := 26) rfl rfl hc102 ?_
    refine pG_many 1 (pc1 := 27) (L1 := [some (.ref a0), some (.int p0)]) (st1 := [.int 0]) (M1 := mjTo Z) (fun _ _ => rfl) ?_
    simp only [Option.some.injEq] at h
    subst h
    exact pG_ret (r := some (.int 0)) rfl ⟨rfl, rfl⟩
  · rw [if_neg hc102] at h
    refine pG_iff (t := 26) rfl rfl hc102 ?_
    refine pG_many 2 (pc1 := 9) (L1 := [some (.ref a0), some (.int p0)]) (st1 := [.int p0, .ref a0]) (M1 := mjTo Z) (fun _ _ => rfl) ?_
    cases hq103 : f8_runner a0 p0 Z with
    | none => rw [hq103] at h; cases h
    | some v104 =>
      rw [hq103, mjBp_some] at h
      refine pG_callV (k2 := 8) (As := [.ref a0, .int p0]) (rest := []) rfl rfl rfl rfl rfl (mjRcv_is hk101 (by decide)) (by decide) (by decide) (f8_runner_ok hq103) ?_
      rintro r9 M9 ⟨rfl, rfl⟩
      show pG 23 12 [some (.ref a0), some (.int p0)] [.ref v104] (mjTo Z) _
      have hk106 : mjIs v104 211 7 = true := by
        by_cases q9 : mjIs v104 211 7 = true
        · exact q9
        · rw [if_neg q9] at h; cases h
      rw [if_pos hk106] at h
      refine pG_getI (ci := 7) (f := 6) rfl rfl (Or.inl rfl) hk106 (by decide) ?_
      refine pG_many 1 (pc1 := 16) (L1 := [some (.ref a0), some (.int p0)]) (st1 := [.ref a0, .int (Z.1 v104 6)]) (M1 := mjTo Z) (fun _ _ => rfl) ?_
      refine pG_getI (ci := 2) (f := 0) rfl rfl (Or.inl rfl) hk101 (by decide) ?_
      by_cases hc107 : mjCmp .ne (Z.1 v104 6) (Z.1 a0 0) = true
      · rw [if_pos hc107] at h
        refine pG_cmt (t := 26) rfl rfl hc107 ?_
        refine pG_many 1 (pc1 := 27) (L1 := [some (.ref a0), some (.int p0)]) (st1 := [.int 0]) (M1 := mjTo Z) (fun _ _ => rfl) ?_
        simp only [Option.some.injEq] at h
        subst h
        exact pG_ret (r := some (.int 0)) rfl ⟨rfl, rfl⟩
      · rw [if_neg hc107] at h
        refine pG_cmf (t := 26) rfl rfl hc107 ?_
        refine pG_many 2 (pc1 := 27) (L1 := [some (.ref a0), some (.int p0)]) (st1 := [.int 1]) (M1 := mjTo Z) (fun _ _ => rfl) ?_
        simp only [Option.some.injEq] at h
        subst h
        exact pG_ret (r := some (.int 1)) rfl ⟨rfl, rfl⟩
def f24_teamInLane_h2 : Nat → Nat → Int32 → Int32 → mjZt → Option Int32
  | 0, _, _, _, _ => none
  | n + 1, x0, x1, x2, Z =>
    if mjIs x0 211 2 = true then
    if mjCmp .ge x2 (Z.1 x0 5) = true then
      some ((-1))
    else
      mjBp (f8_runner x0 x2 Z) fun v104 =>
      if mjIs v104 211 7 = true then
      if mjCmp .ne (Z.1 v104 5) x1 = true then
        f24_teamInLane_h2 n x0 x1 (x2 + 1) Z
      else
        some x2
      else none
    else none
theorem f24_teamInLane_h2_ok : ∀ (n : Nat) (x0 : Nat) (x1 : Int32) (x2 : Int32) (Z : mjZt) (v9 : Int32), f24_teamInLane_h2 n x0 x1 x2 Z = some v9 → pG 24 2 [some (.ref x0), some (.int x1), some (.int x2)] [] (mjTo Z) (fun r M1 => r = some (.int v9) ∧ M1 = mjTo Z)
  | 0, x0, x1, x2, Z, v9, h => by rw [f24_teamInLane_h2] at h; cases h
  | n + 1, x0, x1, x2, Z, v9, h => by
      rw [f24_teamInLane_h2] at h
      refine pG_many 2 (pc1 := 4) (L1 := [some (.ref x0), some (.int x1), some (.int x2)]) (st1 := [.ref x0, .int x2]) (M1 := mjTo Z) (fun _ _ => rfl) ?_
      have hk101 : mjIs x0 211 2 = true := by
        by_cases q9 : mjIs x0 211 2 = true
        · exact q9
        · rw [if_neg q9] at h; cases h
      rw [if_pos hk101] at h
      refine pG_getI (ci := 2) (f := 5) rfl rfl (Or.inl rfl) hk101 (by decide) ?_
      by_cases hc102 : mjCmp .ge x2 (Z.1 x0 5) = true
      · rw [if_pos hc102] at h
        refine pG_cmt (t := 30) rfl rfl hc102 ?_
        refine pG_many 1 (pc1 := 31) (L1 := [some (.ref x0), some (.int x1), some (.int x2)]) (st1 := [.int ((-1))]) (M1 := mjTo Z) (fun _ _ => rfl) ?_
        simp only [Option.some.injEq] at h
        subst h
        exact pG_ret (r := some (.int ((-1)))) rfl ⟨rfl, rfl⟩
      · rw [if_neg hc102] at h
        refine pG_cmf (t := 30) rfl rfl hc102 ?_
        refine pG_many 2 (pc1 := 12) (L1 := [some (.ref x0), some (.int x1), some (.int x2)]) (st1 := [.int x2, .ref x0]) (M1 := mjTo Z) (fun _ _ => rfl) ?_
        cases hq103 : f8_runner x0 x2 Z with
        | none => rw [hq103] at h; cases h
        | some v104 =>
          rw [hq103, mjBp_some] at h
          refine pG_callV (k2 := 8) (As := [.ref x0, .int x2]) (rest := []) rfl rfl rfl rfl rfl (mjRcv_is hk101 (by decide)) (by decide) (by decide) (f8_runner_ok hq103) ?_
          rintro r9 M9 ⟨rfl, rfl⟩
          show pG 24 15 [some (.ref x0), some (.int x1), some (.int x2)] [.ref v104] (mjTo Z) _
          have hk106 : mjIs v104 211 7 = true := by
            by_cases q9 : mjIs v104 211 7 = true
            · exact q9
            · rw [if_neg q9] at h; cases h
          rw [if_pos hk106] at h
          refine pG_getI (ci := 7) (f := 5) rfl rfl (Or.inl rfl) hk106 (by decide) ?_
          refine pG_many 1 (pc1 := 19) (L1 := [some (.ref x0), some (.int x1), some (.int x2)]) (st1 := [.int x1, .int (Z.1 v104 5)]) (M1 := mjTo Z) (fun _ _ => rfl) ?_
          by_cases hc107 : mjCmp .ne (Z.1 v104 5) x1 = true
          · rw [if_pos hc107] at h
            refine pG_cmt (t := 24) rfl rfl hc107 ?_
            refine pG_many 2 (pc1 := 2) (L1 := [some (.ref x0), some (.int x1), some (.int (x2 + 1))]) (st1 := []) (M1 := mjTo Z) (fun _ _ => rfl) ?_
            exact f24_teamInLane_h2_ok n x0 x1 (x2 + 1) Z v9 h
          · rw [if_neg hc107] at h
            refine pG_cmf (t := 24) rfl rfl hc107 ?_
            refine pG_many 1 (pc1 := 23) (L1 := [some (.ref x0), some (.int x1), some (.int x2)]) (st1 := [.int x2]) (M1 := mjTo Z) (fun _ _ => rfl) ?_
            simp only [Option.some.injEq] at h
            subst h
            exact pG_ret (r := some (.int x2)) rfl ⟨rfl, rfl⟩
def f24_teamInLane (a0 : Nat) (p0 : Int32) (Z : mjZt) : Option Int32 :=
  f24_teamInLane_h2 mjF a0 p0 0 Z
theorem f24_teamInLane_ok {a0 : Nat} {p0 : Int32} {Z : mjZt} {v9 : Int32} (h : f24_teamInLane a0 p0 Z = some v9) : pG 24 0 (mjEnt [.ref a0, .int p0] (mjML 24)) [] (mjTo Z) (fun r M1 => r = some (.int v9) ∧ M1 = mjTo Z) := by
  unfold f24_teamInLane at h
  show pG 24 0 [some (.ref a0), some (.int p0), none] [] (mjTo Z) _
  refine pG_many 2 (pc1 := 2) (L1 := [some (.ref a0), some (.int p0), some (.int 0)]) (st1 := []) (M1 := mjTo Z) (fun _ _ => rfl) ?_
  exact f24_teamInLane_h2_ok mjF a0 p0 0 Z v9 h
def f25_teamOfName_h2 : Nat → Nat → Int64 → Int32 → mjZt → Option Int32
  | 0, _, _, _, _ => none
  | n + 1, x0, x1, x3, Z =>
    if mjIs x0 211 2 = true then
    if mjCmp .ge x3 (Z.1 x0 5) = true then
      some ((-1))
    else
      mjBp (f8_runner x0 x3 Z) fun v104 =>
      if mjIs v104 211 7 = true then
      if mjCmp .ne (lg_cmp (Z.2.1 v104 4) x1) 0 = true then
        f25_teamOfName_h2 n x0 x1 (x3 + 1) Z
      else
        some x3
      else none
    else none
theorem f25_teamOfName_h2_ok : ∀ (n : Nat) (x0 : Nat) (x1 : Int64) (x3 : Int32) (d2 : Option Value) (Z : mjZt) (v9 : Int32), f25_teamOfName_h2 n x0 x1 x3 Z = some v9 → pG 25 2 [some (.ref x0), some (.long x1), d2, some (.int x3)] [] (mjTo Z) (fun r M1 => r = some (.int v9) ∧ M1 = mjTo Z)
  | 0, x0, x1, x3, d2, Z, v9, h => by rw [f25_teamOfName_h2] at h; cases h
  | n + 1, x0, x1, x3, d2, Z, v9, h => by
      rw [f25_teamOfName_h2] at h
      refine pG_many 2 (pc1 := 4) (L1 := [some (.ref x0), some (.long x1), d2, some (.int x3)]) (st1 := [.ref x0, .int x3]) (M1 := mjTo Z) (fun _ _ => rfl) ?_
      have hk101 : mjIs x0 211 2 = true := by
        by_cases q9 : mjIs x0 211 2 = true
        · exact q9
        · rw [if_neg q9] at h; cases h
      rw [if_pos hk101] at h
      refine pG_getI (ci := 2) (f := 5) rfl rfl (Or.inl rfl) hk101 (by decide) ?_
      by_cases hc102 : mjCmp .ge x3 (Z.1 x0 5) = true
      · rw [if_pos hc102] at h
        refine pG_cmt (t := 31) rfl rfl hc102 ?_
        refine pG_many 1 (pc1 := 32) (L1 := [some (.ref x0), some (.long x1), d2, some (.int x3)]) (st1 := [.int ((-1))]) (M1 := mjTo Z) (fun _ _ => rfl) ?_
        simp only [Option.some.injEq] at h
        subst h
        exact pG_ret (r := some (.int ((-1)))) rfl ⟨rfl, rfl⟩
      · rw [if_neg hc102] at h
        refine pG_cmf (t := 31) rfl rfl hc102 ?_
        refine pG_many 2 (pc1 := 12) (L1 := [some (.ref x0), some (.long x1), d2, some (.int x3)]) (st1 := [.int x3, .ref x0]) (M1 := mjTo Z) (fun _ _ => rfl) ?_
        cases hq103 : f8_runner x0 x3 Z with
        | none => rw [hq103] at h; cases h
        | some v104 =>
          rw [hq103, mjBp_some] at h
          refine pG_callV (k2 := 8) (As := [.ref x0, .int x3]) (rest := []) rfl rfl rfl rfl rfl (mjRcv_is hk101 (by decide)) (by decide) (by decide) (f8_runner_ok hq103) ?_
          rintro r9 M9 ⟨rfl, rfl⟩
          show pG 25 15 [some (.ref x0), some (.long x1), d2, some (.int x3)] [.ref v104] (mjTo Z) _
          have hk106 : mjIs v104 211 7 = true := by
            by_cases q9 : mjIs v104 211 7 = true
            · exact q9
            · rw [if_neg q9] at h; cases h
          rw [if_pos hk106] at h
          refine pG_getL (ci := 7) (f := 4) rfl rfl rfl hk106 (by decide) ?_
          refine pG_many 2 (pc1 := 20) (L1 := [some (.ref x0), some (.long x1), d2, some (.int x3)]) (st1 := [.int (lg_cmp (Z.2.1 v104 4) x1)]) (M1 := mjTo Z) (fun _ _ => rfl) ?_
          by_cases hc107 : mjCmp .ne (lg_cmp (Z.2.1 v104 4) x1) 0 = true
          · rw [if_pos hc107] at h
            refine pG_ift (t := 25) rfl rfl hc107 ?_
            refine pG_many 2 (pc1 := 2) (L1 := [some (.ref x0), some (.long x1), (mjK1 d2), some (.int (x3 + 1))]) (st1 := []) (M1 := mjTo Z) (fun _ _ => rfl) ?_
            exact f25_teamOfName_h2_ok n x0 x1 (x3 + 1) ((mjK1 d2)) Z v9 h
          · rw [if_neg hc107] at h
            refine pG_iff (t := 25) rfl rfl hc107 ?_
            refine pG_many 1 (pc1 := 24) (L1 := [some (.ref x0), some (.long x1), d2, some (.int x3)]) (st1 := [.int x3]) (M1 := mjTo Z) (fun _ _ => rfl) ?_
            simp only [Option.some.injEq] at h
            subst h
            exact pG_ret (r := some (.int x3)) rfl ⟨rfl, rfl⟩
def f25_teamOfName (a0 : Nat) (p0 : Int64) (Z : mjZt) : Option Int32 :=
  f25_teamOfName_h2 mjF a0 p0 0 Z
theorem f25_teamOfName_ok {a0 : Nat} {p0 : Int64} {Z : mjZt} {v9 : Int32} (h : f25_teamOfName a0 p0 Z = some v9) : pG 25 0 (mjEnt [.ref a0, .long p0] (mjML 25)) [] (mjTo Z) (fun r M1 => r = some (.int v9) ∧ M1 = mjTo Z) := by
  unfold f25_teamOfName at h
  show pG 25 0 [some (.ref a0), some (.long p0), none, none] [] (mjTo Z) _
  refine pG_many 2 (pc1 := 2) (L1 := [some (.ref a0), some (.long p0), none, some (.int 0)]) (st1 := []) (M1 := mjTo Z) (fun _ _ => rfl) ?_
  exact f25_teamOfName_h2_ok mjF a0 p0 0 none Z v9 h
def f26_isNameTaken_h13 : Nat → Nat → Int64 → Int32 → mjZt → Option Int32
  | 0, _, _, _, _ => none
  | n + 1, x0, x1, x3, Z =>
    if mjIs x0 211 2 = true then
    if mjCmp .ge x3 (Z.1 x0 8) = true then
      some 0
    else
      mjBp (f22_nameOfRule x0 x3 Z) fun v109 =>
      if mjCmp .ne (lg_cmp v109 x1) 0 = true then
        f26_isNameTaken_h13 n x0 x1 (x3 + 1) Z
      else
        some 1
    else none
theorem f26_isNameTaken_h13_ok : ∀ (n : Nat) (x0 : Nat) (x1 : Int64) (x3 : Int32) (d2 : Option Value) (Z : mjZt) (v9 : Int32), f26_isNameTaken_h13 n x0 x1 x3 Z = some v9 → pG 26 13 [some (.ref x0), some (.long x1), d2, some (.int x3)] [] (mjTo Z) (fun r M1 => r = some (.int v9) ∧ M1 = mjTo Z)
  | 0, x0, x1, x3, d2, Z, v9, h => by rw [f26_isNameTaken_h13] at h; cases h
  | n + 1, x0, x1, x3, d2, Z, v9, h => by
      rw [f26_isNameTaken_h13] at h
      refine pG_many 2 (pc1 := 15) (L1 := [some (.ref x0), some (.long x1), d2, some (.int x3)]) (st1 := [.ref x0, .int x3]) (M1 := mjTo Z) (fun _ _ => rfl) ?_
      have hk106 : mjIs x0 211 2 = true := by
        by_cases q9 : mjIs x0 211 2 = true
        · exact q9
        · rw [if_neg q9] at h; cases h
      rw [if_pos hk106] at h
      refine pG_getI (ci := 2) (f := 8) rfl rfl (Or.inl rfl) hk106 (by decide) ?_
      by_cases hc107 : mjCmp .ge x3 (Z.1 x0 8) = true
      · rw [if_pos hc107] at h
        refine pG_cmt (t := 39) rfl rfl hc107 ?_
        refine pG_many 1 (pc1 := 40) (L1 := [some (.ref x0), some (.long x1), d2, some (.int x3)]) (st1 := [.int 0]) (M1 := mjTo Z) (fun _ _ => rfl) ?_
        simp only [Option.some.injEq] at h
        subst h
        exact pG_ret (r := some (.int 0)) rfl ⟨rfl, rfl⟩
      · rw [if_neg hc107] at h
        refine pG_cmf (t := 39) rfl rfl hc107 ?_
        refine pG_many 2 (pc1 := 23) (L1 := [some (.ref x0), some (.long x1), d2, some (.int x3)]) (st1 := [.int x3, .ref x0]) (M1 := mjTo Z) (fun _ _ => rfl) ?_
        cases hq108 : f22_nameOfRule x0 x3 Z with
        | none => rw [hq108] at h; cases h
        | some v109 =>
          rw [hq108, mjBp_some] at h
          refine pG_callV (k2 := 22) (As := [.ref x0, .int x3]) (rest := []) rfl rfl rfl rfl rfl (mjRcv_is hk106 (by decide)) (by decide) (by decide) (f22_nameOfRule_ok hq108) ?_
          rintro r9 M9 ⟨rfl, rfl⟩
          show pG 26 26 [some (.ref x0), some (.long x1), d2, some (.int x3)] [.long v109] (mjTo Z) _
          refine pG_many 2 (pc1 := 28) (L1 := [some (.ref x0), some (.long x1), d2, some (.int x3)]) (st1 := [.int (lg_cmp v109 x1)]) (M1 := mjTo Z) (fun _ _ => rfl) ?_
          by_cases hc111 : mjCmp .ne (lg_cmp v109 x1) 0 = true
          · rw [if_pos hc111] at h
            refine pG_ift (t := 33) rfl rfl hc111 ?_
            refine pG_many 2 (pc1 := 13) (L1 := [some (.ref x0), some (.long x1), (mjK1 d2), some (.int (x3 + 1))]) (st1 := []) (M1 := mjTo Z) (fun _ _ => rfl) ?_
            exact f26_isNameTaken_h13_ok n x0 x1 (x3 + 1) ((mjK1 d2)) Z v9 h
          · rw [if_neg hc111] at h
            refine pG_iff (t := 33) rfl rfl hc111 ?_
            refine pG_many 1 (pc1 := 32) (L1 := [some (.ref x0), some (.long x1), d2, some (.int x3)]) (st1 := [.int 1]) (M1 := mjTo Z) (fun _ _ => rfl) ?_
            simp only [Option.some.injEq] at h
            subst h
            exact pG_ret (r := some (.int 1)) rfl ⟨rfl, rfl⟩
def f26_isNameTaken (a0 : Nat) (p0 : Int64) (Z : mjZt) : Option Int32 :=
  if mjIs a0 211 2 = true then
  mjBp (f25_teamOfName a0 p0 Z) fun v103 =>
  if mjCmp .eq v103 ((-1)) = true then
    f26_isNameTaken_h13 mjF a0 p0 0 Z
  else
    some 1
  else none
theorem f26_isNameTaken_ok {a0 : Nat} {p0 : Int64} {Z : mjZt} {v9 : Int32} (h : f26_isNameTaken a0 p0 Z = some v9) : pG 26 0 (mjEnt [.ref a0, .long p0] (mjML 26)) [] (mjTo Z) (fun r M1 => r = some (.int v9) ∧ M1 = mjTo Z) := by
  unfold f26_isNameTaken at h
  show pG 26 0 [some (.ref a0), some (.long p0), none, none] [] (mjTo Z) _
  refine pG_many 2 (pc1 := 2) (L1 := [some (.ref a0), some (.long p0), none, none]) (st1 := [.long p0, .ref a0]) (M1 := mjTo Z) (fun _ _ => rfl) ?_
  have hk101 : mjIs a0 211 2 = true := by
    by_cases q9 : mjIs a0 211 2 = true
    · exact q9
    · rw [if_neg q9] at h; cases h
  rw [if_pos hk101] at h
  cases hq102 : f25_teamOfName a0 p0 Z with
  | none => rw [hq102] at h; cases h
  | some v103 =>
    rw [hq102, mjBp_some] at h
    refine pG_callV (k2 := 25) (As := [.ref a0, .long p0]) (rest := []) rfl rfl rfl rfl rfl (mjRcv_is hk101 (by decide)) (by decide) (by decide) (f25_teamOfName_ok hq102) ?_
    rintro r9 M9 ⟨rfl, rfl⟩
    show pG 26 5 [some (.ref a0), some (.long p0), none, none] [.int v103] (mjTo Z) _
    refine pG_many 1 (pc1 := 6) (L1 := [some (.ref a0), some (.long p0), none, none]) (st1 := [.int ((-1)), .int v103]) (M1 := mjTo Z) (fun _ _ => rfl) ?_
    by_cases hc105 : mjCmp .eq v103 ((-1)) = true
    · rw [if_pos hc105] at h
      refine pG_cmt (t := 11) rfl rfl hc105 ?_
      refine pG_many 2 (pc1 := 13) (L1 := [some (.ref a0), some (.long p0), none, some (.int 0)]) (st1 := []) (M1 := mjTo Z) (fun _ _ => rfl) ?_
      exact f26_isNameTaken_h13_ok mjF a0 p0 0 none Z v9 h
    · rw [if_neg hc105] at h
      refine pG_cmf (t := 11) rfl rfl hc105 ?_
      refine pG_many 1 (pc1 := 10) (L1 := [some (.ref a0), some (.long p0), none, none]) (st1 := [.int 1]) (M1 := mjTo Z) (fun _ _ => rfl) ?_
      simp only [Option.some.injEq] at h
      subst h
      exact pG_ret (r := some (.int 1)) rfl ⟨rfl, rfl⟩
def f27_addTeam (a0 : Nat) (p0 : Int64) (p1 : Int32) (Z : mjZt) : Option (Unit × mjZt) :=
  if mjIs a0 211 2 = true then
  if mjCmp .ge (Z.1 a0 5) 6 = true then
    some ((), Z)
  else
    mjLet (zSi Z a0 5 ((Z.1 a0 5) + 1)) fun Z103 =>
    mjBp (f8_runner a0 ((Z103.1 a0 5) - 1) Z103) fun v105 =>
    if mjIs v105 211 7 = true then
    mjLet (zSl Z103 v105 4 p0) fun Z108 =>
    mjLet (zSi Z108 v105 5 p1) fun Z109 =>
    mjLet (zSi Z109 v105 6 0) fun Z110 =>
    some ((), Z110)
    else none
  else none
theorem f27_addTeam_ok {a0 : Nat} {p0 : Int64} {p1 : Int32} {Z : mjZt} {v9 : Unit} {Z9 : mjZt} (h : f27_addTeam a0 p0 p1 Z = some (v9, Z9)) : pG 27 0 (mjEnt [.ref a0, .long p0, .int p1] (mjML 27)) [] (mjTo Z) (fun r M1 => r = none ∧ M1 = mjTo Z9) := by
  unfold f27_addTeam at h
  show pG 27 0 [some (.ref a0), some (.long p0), none, some (.int p1), none] [] (mjTo Z) _
  refine pG_many 1 (pc1 := 1) (L1 := [some (.ref a0), some (.long p0), none, some (.int p1), none]) (st1 := [.ref a0]) (M1 := mjTo Z) (fun _ _ => rfl) ?_
  have hk101 : mjIs a0 211 2 = true := by
    by_cases q9 : mjIs a0 211 2 = true
    · exact q9
    · rw [if_neg q9] at h; cases h
  rw [if_pos hk101] at h
  refine pG_getI (ci := 2) (f := 5) rfl rfl (Or.inl rfl) hk101 (by decide) ?_
  refine pG_many 1 (pc1 := 6) (L1 := [some (.ref a0), some (.long p0), none, some (.int p1), none]) (st1 := [.int 6, .int (Z.1 a0 5)]) (M1 := mjTo Z) (fun _ _ => rfl) ?_
  by_cases hc102 : mjCmp .ge (Z.1 a0 5) 6 = true
  · rw [if_pos hc102] at h
    refine pG_cmt (t := 49) rfl rfl hc102 ?_
    simp only [Option.some.injEq, Prod.mk.injEq] at h
    obtain ⟨-, rfl⟩ := h
    exact pG_ret (r := none) rfl ⟨rfl, rfl⟩
  · rw [if_neg hc102] at h
    refine pG_cmf (t := 49) rfl rfl hc102 ?_
    refine pG_many 2 (pc1 := 11) (L1 := [some (.ref a0), some (.long p0), none, some (.int p1), none]) (st1 := [.ref a0, .ref a0]) (M1 := mjTo Z) (fun _ _ => rfl) ?_
    refine pG_getI (ci := 2) (f := 5) rfl rfl (Or.inl rfl) hk101 (by decide) ?_
    refine pG_many 2 (pc1 := 16) (L1 := [some (.ref a0), some (.long p0), none, some (.int p1), none]) (st1 := [.int ((Z.1 a0 5) + 1), .ref a0]) (M1 := mjTo Z) (fun _ _ => rfl) ?_
    refine pG_putI (ci := 2) (f := 5) rfl rfl rfl rfl hk101 (by decide) ?_
    rw [mjLet] at h
    generalize zSi Z a0 5 ((Z.1 a0 5) + 1) = Z103 at h ⊢
    refine pG_many 2 (pc1 := 21) (L1 := [some (.ref a0), some (.long p0), none, some (.int p1), none]) (st1 := [.ref a0, .ref a0]) (M1 := mjTo Z103) (fun _ _ => rfl) ?_
    refine pG_getI (ci := 2) (f := 5) rfl rfl (Or.inl rfl) hk101 (by decide) ?_
    refine pG_many 2 (pc1 := 26) (L1 := [some (.ref a0), some (.long p0), none, some (.int p1), none]) (st1 := [.int ((Z103.1 a0 5) - 1), .ref a0]) (M1 := mjTo Z103) (fun _ _ => rfl) ?_
    cases hq104 : f8_runner a0 ((Z103.1 a0 5) - 1) Z103 with
    | none => rw [hq104] at h; cases h
    | some v105 =>
      rw [hq104, mjBp_some] at h
      refine pG_callV (k2 := 8) (As := [.ref a0, .int ((Z103.1 a0 5) - 1)]) (rest := []) rfl rfl rfl rfl rfl (mjRcv_is hk101 (by decide)) (by decide) (by decide) (f8_runner_ok hq104) ?_
      rintro r9 M9 ⟨rfl, rfl⟩
      show pG 27 29 [some (.ref a0), some (.long p0), none, some (.int p1), none] [.ref v105] (mjTo Z103) _
      refine pG_many 3 (pc1 := 34) (L1 := [some (.ref a0), some (.long p0), none, some (.int p1), some (.ref v105)]) (st1 := [.long p0, .ref v105]) (M1 := mjTo Z103) (fun _ _ => rfl) ?_
      have hk107 : mjIs v105 211 7 = true := by
        by_cases q9 : mjIs v105 211 7 = true
        · exact q9
        · rw [if_neg q9] at h; cases h
      rw [if_pos hk107] at h
      refine pG_putL (ci := 7) (f := 4) rfl rfl rfl rfl hk107 (by decide) ?_
      rw [mjLet] at h
      generalize zSl Z103 v105 4 p0 = Z108 at h ⊢
      refine pG_many 2 (pc1 := 40) (L1 := [some (.ref a0), some (.long p0), none, some (.int p1), some (.ref v105)]) (st1 := [.int p1, .ref v105]) (M1 := mjTo Z108) (fun _ _ => rfl) ?_
      refine pG_putI (ci := 7) (f := 5) rfl rfl rfl rfl hk107 (by decide) ?_
      rw [mjLet] at h
      generalize zSi Z108 v105 5 p1 = Z109 at h ⊢
      refine pG_many 2 (pc1 := 46) (L1 := [some (.ref a0), some (.long p0), none, some (.int p1), some (.ref v105)]) (st1 := [.int 0, .ref v105]) (M1 := mjTo Z109) (fun _ _ => rfl) ?_
      refine pG_putI (ci := 7) (f := 6) rfl rfl rfl rfl hk107 (by decide) ?_
      rw [mjLet] at h
      generalize zSi Z109 v105 6 0 = Z110 at h ⊢
      simp only [Option.some.injEq, Prod.mk.injEq] at h
      obtain ⟨-, rfl⟩ := h
      exact pG_ret (r := none) rfl ⟨rfl, rfl⟩
def f28_addAct (a0 : Nat) (p0 : Int32) (p1 : Int32) (p2 : Int32) (p3 : Int32) (p4 : Int32) (Z : mjZt) : Option (Unit × mjZt) :=
  if mjIs a0 211 2 = true then
  mjBp (f6_deed a0 (Z.1 a0 6) Z) fun v103 =>
  if mjIs v103 211 0 = true then
  mjBd (f1_tell v103 p0 p1 p2 p3 p4 Z) fun _ Z108 =>
  mjLet (zSi Z108 a0 6 ((Z108.1 a0 6) + 1)) fun Z109 =>
  some ((), Z109)
  else none
  else none
theorem f28_addAct_ok {a0 : Nat} {p0 : Int32} {p1 : Int32} {p2 : Int32} {p3 : Int32} {p4 : Int32} {Z : mjZt} {v9 : Unit} {Z9 : mjZt} (h : f28_addAct a0 p0 p1 p2 p3 p4 Z = some (v9, Z9)) : pG 28 0 (mjEnt [.ref a0, .int p0, .int p1, .int p2, .int p3, .int p4] (mjML 28)) [] (mjTo Z) (fun r M1 => r = none ∧ M1 = mjTo Z9) := by
  unfold f28_addAct at h
  show pG 28 0 [some (.ref a0), some (.int p0), some (.int p1), some (.int p2), some (.int p3), some (.int p4)] [] (mjTo Z) _
  refine pG_many 2 (pc1 := 2) (L1 := [some (.ref a0), some (.int p0), some (.int p1), some (.int p2), some (.int p3), some (.int p4)]) (st1 := [.ref a0, .ref a0]) (M1 := mjTo Z) (fun _ _ => rfl) ?_
  have hk101 : mjIs a0 211 2 = true := by
    by_cases q9 : mjIs a0 211 2 = true
    · exact q9
    · rw [if_neg q9] at h; cases h
  rw [if_pos hk101] at h
  refine pG_getI (ci := 2) (f := 6) rfl rfl (Or.inl rfl) hk101 (by decide) ?_
  cases hq102 : f6_deed a0 (Z.1 a0 6) Z with
  | none => rw [hq102] at h; cases h
  | some v103 =>
    rw [hq102, mjBp_some] at h
    refine pG_callV (k2 := 6) (As := [.ref a0, .int (Z.1 a0 6)]) (rest := []) rfl rfl rfl rfl rfl (mjRcv_is hk101 (by decide)) (by decide) (by decide) (f6_deed_ok hq102) ?_
    rintro r9 M9 ⟨rfl, rfl⟩
    show pG 28 8 [some (.ref a0), some (.int p0), some (.int p1), some (.int p2), some (.int p3), some (.int p4)] [.ref v103] (mjTo Z) _
    refine pG_many 5 (pc1 := 15) (L1 := [some (.ref a0), some (.int p0), some (.int p1), some (.int p2), some (.int p3), some (.int p4)]) (st1 := [.int p4, .int p3, .int p2, .int p1, .int p0, .ref v103]) (M1 := mjTo Z) (fun _ _ => rfl) ?_
    have hk105 : mjIs v103 211 0 = true := by
      by_cases q9 : mjIs v103 211 0 = true
      · exact q9
      · rw [if_neg q9] at h; cases h
    rw [if_pos hk105] at h
    cases hq106 : f1_tell v103 p0 p1 p2 p3 p4 Z with
    | none => rw [hq106] at h; cases h
    | some w =>
      obtain ⟨v107, Z108⟩ := w
      rw [hq106, mjBd_some] at h
      refine pG_callV (k2 := 1) (As := [.ref v103, .int p0, .int p1, .int p2, .int p3, .int p4]) (rest := []) rfl rfl rfl rfl rfl (mjRcv_is hk105 (by decide)) (by decide) (by decide) (f1_tell_ok hq106) ?_
      rintro r9 M9 ⟨rfl, rfl⟩
      show pG 28 18 [some (.ref a0), some (.int p0), some (.int p1), some (.int p2), some (.int p3), some (.int p4)] [] (mjTo Z108) _
      refine pG_many 2 (pc1 := 20) (L1 := [some (.ref a0), some (.int p0), some (.int p1), some (.int p2), some (.int p3), some (.int p4)]) (st1 := [.ref a0, .ref a0]) (M1 := mjTo Z108) (fun _ _ => rfl) ?_
      refine pG_getI (ci := 2) (f := 6) rfl rfl (Or.inl rfl) hk101 (by decide) ?_
      refine pG_many 2 (pc1 := 25) (L1 := [some (.ref a0), some (.int p0), some (.int p1), some (.int p2), some (.int p3), some (.int p4)]) (st1 := [.int ((Z108.1 a0 6) + 1), .ref a0]) (M1 := mjTo Z108) (fun _ _ => rfl) ?_
      refine pG_putI (ci := 2) (f := 6) rfl rfl rfl rfl hk101 (by decide) ?_
      rw [mjLet] at h
      generalize zSi Z108 a0 6 ((Z108.1 a0 6) + 1) = Z109 at h ⊢
      simp only [Option.some.injEq, Prod.mk.injEq] at h
      obtain ⟨-, rfl⟩ := h
      exact pG_ret (r := none) rfl ⟨rfl, rfl⟩
def f29_addRule (a0 : Nat) (p0 : Int64) (p1 : Int32) (Z : mjZt) : Option (Unit × mjZt) :=
  if mjIs a0 211 2 = true then
  if mjCmp .lt (Z.1 a0 8) 0 = true then
    some ((), Z)
  else
    if mjCmp .ge (Z.1 a0 8) 8 = true then
      some ((), Z)
    else
      if mjIs (a0 + 10) 211 14 = true then
      if mjIn (Z.1 a0 8) (mjLay (a0 + 10)).2 = true then
      mjLet (zSl Z (a0 + 10) (mjIx (Z.1 a0 8)) p0) fun Z106 =>
      if mjIs (a0 + 11) 211 13 = true then
      if mjIn (Z106.1 a0 8) (mjLay (a0 + 11)).2 = true then
      mjLet (zSi Z106 (a0 + 11) (mjIx (Z106.1 a0 8)) p1) fun Z109 =>
      mjLet (zSi Z109 a0 8 ((Z109.1 a0 8) + 1)) fun Z110 =>
      some ((), Z110)
      else none
      else none
      else none
      else none
  else none
theorem f29_addRule_ok {a0 : Nat} {p0 : Int64} {p1 : Int32} {Z : mjZt} {v9 : Unit} {Z9 : mjZt} (h : f29_addRule a0 p0 p1 Z = some (v9, Z9)) : pG 29 0 (mjEnt [.ref a0, .long p0, .int p1] (mjML 29)) [] (mjTo Z) (fun r M1 => r = none ∧ M1 = mjTo Z9) := by
  unfold f29_addRule at h
  show pG 29 0 [some (.ref a0), some (.long p0), none, some (.int p1)] [] (mjTo Z) _
  refine pG_many 1 (pc1 := 1) (L1 := [some (.ref a0), some (.long p0), none, some (.int p1)]) (st1 := [.ref a0]) (M1 := mjTo Z) (fun _ _ => rfl) ?_
  have hk101 : mjIs a0 211 2 = true := by
    by_cases q9 : mjIs a0 211 2 = true
    · exact q9
    · rw [if_neg q9] at h; cases h
  rw [if_pos hk101] at h
  refine pG_getI (ci := 2) (f := 8) rfl rfl (Or.inl rfl) hk101 (by decide) ?_
  by_cases hc102 : mjCmp .lt (Z.1 a0 8) 0 = true
  · rw [if_pos hc102] at h
    refine pG_ift (t := 46) rfl rfl hc102 ?_
    simp only [Option.some.injEq, Prod.mk.injEq] at h
    obtain ⟨-, rfl⟩ := h
    exact pG_ret (r := none) rfl ⟨rfl, rfl⟩
  · rw [if_neg hc102] at h
    refine pG_iff (t := 46) rfl rfl hc102 ?_
    refine pG_many 1 (pc1 := 8) (L1 := [some (.ref a0), some (.long p0), none, some (.int p1)]) (st1 := [.ref a0]) (M1 := mjTo Z) (fun _ _ => rfl) ?_
    refine pG_getI (ci := 2) (f := 8) rfl rfl (Or.inl rfl) hk101 (by decide) ?_
    refine pG_many 1 (pc1 := 13) (L1 := [some (.ref a0), some (.long p0), none, some (.int p1)]) (st1 := [.int 8, .int (Z.1 a0 8)]) (M1 := mjTo Z) (fun _ _ => rfl) ?_
    by_cases hc103 : mjCmp .ge (Z.1 a0 8) 8 = true
    · rw [if_pos hc103] at h
      refine pG_cmt (t := 46) rfl rfl hc103 ?_
      simp only [Option.some.injEq, Prod.mk.injEq] at h
      obtain ⟨-, rfl⟩ := h
      exact pG_ret (r := none) rfl ⟨rfl, rfl⟩
    · rw [if_neg hc103] at h
      refine pG_cmf (t := 46) rfl rfl hc103 ?_
      refine pG_many 1 (pc1 := 17) (L1 := [some (.ref a0), some (.long p0), none, some (.int p1)]) (st1 := [.ref a0]) (M1 := mjTo Z) (fun _ _ => rfl) ?_
      refine pG_getR (ci := 2) (f := 15) (b := a0 + 10) rfl rfl rfl hk101 (by decide) (mjRc2_15 hk101) ?_
      refine pG_many 1 (pc1 := 21) (L1 := [some (.ref a0), some (.long p0), none, some (.int p1)]) (st1 := [.ref a0, .ref (a0 + 10)]) (M1 := mjTo Z) (fun _ _ => rfl) ?_
      refine pG_getI (ci := 2) (f := 8) rfl rfl (Or.inl rfl) hk101 (by decide) ?_
      refine pG_many 1 (pc1 := 25) (L1 := [some (.ref a0), some (.long p0), none, some (.int p1)]) (st1 := [.long p0, .int (Z.1 a0 8), .ref (a0 + 10)]) (M1 := mjTo Z) (fun _ _ => rfl) ?_
      have hk104 : mjIs (a0 + 10) 211 14 = true := by
        by_cases q9 : mjIs (a0 + 10) 211 14 = true
        · exact q9
        · rw [if_neg q9] at h; cases h
      rw [if_pos hk104] at h
      have hk105 : mjIn (Z.1 a0 8) (mjLay (a0 + 10)).2 = true := by
        by_cases q9 : mjIn (Z.1 a0 8) (mjLay (a0 + 10)).2 = true
        · exact q9
        · rw [if_neg q9] at h; cases h
      rw [if_pos hk105] at h
      refine pG_las rfl hk104 hk105 (?_ : pG 29 26 [some (.ref a0), some (.long p0), none, some (.int p1)] [] (mjTo (zSl Z (a0 + 10) (mjIx (Z.1 a0 8)) p0)) _)
      rw [mjLet] at h
      generalize zSl Z (a0 + 10) (mjIx (Z.1 a0 8)) p0 = Z106 at h ⊢
      refine pG_many 1 (pc1 := 27) (L1 := [some (.ref a0), some (.long p0), none, some (.int p1)]) (st1 := [.ref a0]) (M1 := mjTo Z106) (fun _ _ => rfl) ?_
      refine pG_getR (ci := 2) (f := 16) (b := a0 + 11) rfl rfl rfl hk101 (by decide) (mjRc2_16 hk101) ?_
      refine pG_many 1 (pc1 := 31) (L1 := [some (.ref a0), some (.long p0), none, some (.int p1)]) (st1 := [.ref a0, .ref (a0 + 11)]) (M1 := mjTo Z106) (fun _ _ => rfl) ?_
      refine pG_getI (ci := 2) (f := 8) rfl rfl (Or.inl rfl) hk101 (by decide) ?_
      refine pG_many 1 (pc1 := 35) (L1 := [some (.ref a0), some (.long p0), none, some (.int p1)]) (st1 := [.int p1, .int (Z106.1 a0 8), .ref (a0 + 11)]) (M1 := mjTo Z106) (fun _ _ => rfl) ?_
      have hk107 : mjIs (a0 + 11) 211 13 = true := by
        by_cases q9 : mjIs (a0 + 11) 211 13 = true
        · exact q9
        · rw [if_neg q9] at h; cases h
      rw [if_pos hk107] at h
      have hk108 : mjIn (Z106.1 a0 8) (mjLay (a0 + 11)).2 = true := by
        by_cases q9 : mjIn (Z106.1 a0 8) (mjLay (a0 + 11)).2 = true
        · exact q9
        · rw [if_neg q9] at h; cases h
      rw [if_pos hk108] at h
      refine pG_ias rfl hk107 hk108 (?_ : pG 29 36 [some (.ref a0), some (.long p0), none, some (.int p1)] [] (mjTo (zSi Z106 (a0 + 11) (mjIx (Z106.1 a0 8)) p1)) _)
      rw [mjLet] at h
      generalize zSi Z106 (a0 + 11) (mjIx (Z106.1 a0 8)) p1 = Z109 at h ⊢
      refine pG_many 2 (pc1 := 38) (L1 := [some (.ref a0), some (.long p0), none, some (.int p1)]) (st1 := [.ref a0, .ref a0]) (M1 := mjTo Z109) (fun _ _ => rfl) ?_
      refine pG_getI (ci := 2) (f := 8) rfl rfl (Or.inl rfl) hk101 (by decide) ?_
      refine pG_many 2 (pc1 := 43) (L1 := [some (.ref a0), some (.long p0), none, some (.int p1)]) (st1 := [.int ((Z109.1 a0 8) + 1), .ref a0]) (M1 := mjTo Z109) (fun _ _ => rfl) ?_
      refine pG_putI (ci := 2) (f := 8) rfl rfl rfl rfl hk101 (by decide) ?_
      rw [mjLet] at h
      generalize zSi Z109 a0 8 ((Z109.1 a0 8) + 1) = Z110 at h ⊢
      simp only [Option.some.injEq, Prod.mk.injEq] at h
      obtain ⟨-, rfl⟩ := h
      exact pG_ret (r := none) rfl ⟨rfl, rfl⟩
def f30_mostMetres (a0 : Nat) (p0 : Int32) (Z : mjZt) : Option Int32 :=
  if mjIs a0 211 2 = true then
  if mjCmp .ne p0 (Z.1 a0 0) = true then
    some 20
  else
    some 0
  else none
theorem f30_mostMetres_ok {a0 : Nat} {p0 : Int32} {Z : mjZt} {v9 : Int32} (h : f30_mostMetres a0 p0 Z = some v9) : pG 30 0 (mjEnt [.ref a0, .int p0] (mjML 30)) [] (mjTo Z) (fun r M1 => r = some (.int v9) ∧ M1 = mjTo Z) := by
  unfold f30_mostMetres at h
  show pG 30 0 [some (.ref a0), some (.int p0)] [] (mjTo Z) _
  refine pG_many 2 (pc1 := 2) (L1 := [some (.ref a0), some (.int p0)]) (st1 := [.ref a0, .int p0]) (M1 := mjTo Z) (fun _ _ => rfl) ?_
  have hk101 : mjIs a0 211 2 = true := by
    by_cases q9 : mjIs a0 211 2 = true
    · exact q9
    · rw [if_neg q9] at h; cases h
  rw [if_pos hk101] at h
  refine pG_getI (ci := 2) (f := 0) rfl rfl (Or.inl rfl) hk101 (by decide) ?_
  by_cases hc102 : mjCmp .ne p0 (Z.1 a0 0) = true
  · rw [if_pos hc102] at h
    refine pG_cmt (t := 12) rfl rfl hc102 ?_
    refine pG_many 1 (pc1 := 14) (L1 := [some (.ref a0), some (.int p0)]) (st1 := [.int 20]) (M1 := mjTo Z) (fun _ _ => rfl) ?_
    simp only [Option.some.injEq] at h
    subst h
    exact pG_ret (r := some (.int 20)) rfl ⟨rfl, rfl⟩
  · rw [if_neg hc102] at h
    refine pG_cmf (t := 12) rfl rfl hc102 ?_
    refine pG_many 2 (pc1 := 14) (L1 := [some (.ref a0), some (.int p0)]) (st1 := [.int 0]) (M1 := mjTo Z) (fun _ _ => rfl) ?_
    simp only [Option.some.injEq] at h
    subst h
    exact pG_ret (r := some (.int 0)) rfl ⟨rfl, rfl⟩
def f31_settle_h2 : Nat → Nat → Int32 → Int32 → mjZt → Option (Unit × mjZt)
  | 0, _, _, _, _ => none
  | n + 1, x0, x1, x2, Z =>
    if mjIs x0 211 7 = true then
    if mjCmp .gt x2 (Z.1 x0 6) = true then
      some ((), Z)
    else
      if mjCmp .gt x2 6 = true then
        some ((), Z)
      else
        if mjIs (x0 + 3) 211 13 = true then
        if mjIn (x2 - 1) (mjLay (x0 + 3)).2 = true then
        if mjIs (x0 + 1) 211 13 = true then
        if mjIn x2 (mjLay (x0 + 1)).2 = true then
        if mjIn x2 (mjLay (x0 + 3)).2 = true then
        mjLet (zSi Z (x0 + 3) (mjIx x2) ((Z.1 (x0 + 3) (mjIx (x2 - 1))) + (Z.1 (x0 + 1) (mjIx x2)))) fun Z109 =>
        if mjIs (x0 + 2) 211 13 = true then
        if mjIn x2 (mjLay (x0 + 2)).2 = true then
        if mjIs (x0 + 4) 211 13 = true then
        if mjIn x2 (mjLay (x0 + 4)).2 = true then
        mjLet (zSi Z109 (x0 + 4) (mjIx x2) (((x2 * x1) + (Z109.1 (x0 + 2) (mjIx x2))) * 10)) fun Z114 =>
        f31_settle_h2 n x0 x1 (x2 + 1) Z114
        else none
        else none
        else none
        else none
        else none
        else none
        else none
        else none
        else none
    else none
theorem f31_settle_h2_ok : ∀ (n : Nat) (x0 : Nat) (x1 : Int32) (x2 : Int32) (Z : mjZt) (v9 : Unit) (Z9 : mjZt), f31_settle_h2 n x0 x1 x2 Z = some (v9, Z9) → pG 31 2 [some (.ref x0), some (.int x1), some (.int x2)] [] (mjTo Z) (fun r M1 => r = none ∧ M1 = mjTo Z9)
  | 0, x0, x1, x2, Z, v9, Z9, h => by rw [f31_settle_h2] at h; cases h
  | n + 1, x0, x1, x2, Z, v9, Z9, h => by
      rw [f31_settle_h2] at h
      refine pG_many 2 (pc1 := 4) (L1 := [some (.ref x0), some (.int x1), some (.int x2)]) (st1 := [.ref x0, .int x2]) (M1 := mjTo Z) (fun _ _ => rfl) ?_
      have hk101 : mjIs x0 211 7 = true := by
        by_cases q9 : mjIs x0 211 7 = true
        · exact q9
        · rw [if_neg q9] at h; cases h
      rw [if_pos hk101] at h
      refine pG_getI (ci := 7) (f := 6) rfl rfl (Or.inl rfl) hk101 (by decide) ?_
      by_cases hc102 : mjCmp .gt x2 (Z.1 x0 6) = true
      · rw [if_pos hc102] at h
        refine pG_cmt (t := 62) rfl rfl hc102 ?_
        simp only [Option.some.injEq, Prod.mk.injEq] at h
        obtain ⟨-, rfl⟩ := h
        exact pG_ret (r := none) rfl ⟨rfl, rfl⟩
      · rw [if_neg hc102] at h
        refine pG_cmf (t := 62) rfl rfl hc102 ?_
        refine pG_many 2 (pc1 := 13) (L1 := [some (.ref x0), some (.int x1), some (.int x2)]) (st1 := [.int 6, .int x2]) (M1 := mjTo Z) (fun _ _ => rfl) ?_
        by_cases hc103 : mjCmp .gt x2 6 = true
        · rw [if_pos hc103] at h
          refine pG_cmt (t := 62) rfl rfl hc103 ?_
          simp only [Option.some.injEq, Prod.mk.injEq] at h
          obtain ⟨-, rfl⟩ := h
          exact pG_ret (r := none) rfl ⟨rfl, rfl⟩
        · rw [if_neg hc103] at h
          refine pG_cmf (t := 62) rfl rfl hc103 ?_
          refine pG_many 1 (pc1 := 17) (L1 := [some (.ref x0), some (.int x1), some (.int x2)]) (st1 := [.ref x0]) (M1 := mjTo Z) (fun _ _ => rfl) ?_
          refine pG_getR (ci := 7) (f := 2) (b := x0 + 3) rfl rfl rfl hk101 (by decide) (mjRc7_2 hk101) ?_
          refine pG_many 2 (pc1 := 22) (L1 := [some (.ref x0), some (.int x1), some (.int x2)]) (st1 := [.ref x0, .int x2, .ref (x0 + 3)]) (M1 := mjTo Z) (fun _ _ => rfl) ?_
          refine pG_getR (ci := 7) (f := 2) (b := x0 + 3) rfl rfl rfl hk101 (by decide) (mjRc7_2 hk101) ?_
          refine pG_many 3 (pc1 := 28) (L1 := [some (.ref x0), some (.int x1), some (.int x2)]) (st1 := [.int (x2 - 1), .ref (x0 + 3), .int x2, .ref (x0 + 3)]) (M1 := mjTo Z) (fun _ _ => rfl) ?_
          have hk104 : mjIs (x0 + 3) 211 13 = true := by
            by_cases q9 : mjIs (x0 + 3) 211 13 = true
            · exact q9
            · rw [if_neg q9] at h; cases h
          rw [if_pos hk104] at h
          have hk105 : mjIn (x2 - 1) (mjLay (x0 + 3)).2 = true := by
            by_cases q9 : mjIn (x2 - 1) (mjLay (x0 + 3)).2 = true
            · exact q9
            · rw [if_neg q9] at h; cases h
          rw [if_pos hk105] at h
          refine pG_ial rfl hk104 hk105 ?_
          refine pG_many 1 (pc1 := 30) (L1 := [some (.ref x0), some (.int x1), some (.int x2)]) (st1 := [.ref x0, .int (Z.1 (x0 + 3) (mjIx (x2 - 1))), .int x2, .ref (x0 + 3)]) (M1 := mjTo Z) (fun _ _ => rfl) ?_
          refine pG_getR (ci := 7) (f := 0) (b := x0 + 1) rfl rfl rfl hk101 (by decide) (mjRc7_0 hk101) ?_
          refine pG_many 1 (pc1 := 34) (L1 := [some (.ref x0), some (.int x1), some (.int x2)]) (st1 := [.int x2, .ref (x0 + 1), .int (Z.1 (x0 + 3) (mjIx (x2 - 1))), .int x2, .ref (x0 + 3)]) (M1 := mjTo Z) (fun _ _ => rfl) ?_
          have hk106 : mjIs (x0 + 1) 211 13 = true := by
            by_cases q9 : mjIs (x0 + 1) 211 13 = true
            · exact q9
            · rw [if_neg q9] at h; cases h
          rw [if_pos hk106] at h
          have hk107 : mjIn x2 (mjLay (x0 + 1)).2 = true := by
            by_cases q9 : mjIn x2 (mjLay (x0 + 1)).2 = true
            · exact q9
            · rw [if_neg q9] at h; cases h
          rw [if_pos hk107] at h
          refine pG_ial rfl hk106 hk107 ?_
          refine pG_many 1 (pc1 := 36) (L1 := [some (.ref x0), some (.int x1), some (.int x2)]) (st1 := [.int ((Z.1 (x0 + 3) (mjIx (x2 - 1))) + (Z.1 (x0 + 1) (mjIx x2))), .int x2, .ref (x0 + 3)]) (M1 := mjTo Z) (fun _ _ => rfl) ?_
          have hk108 : mjIn x2 (mjLay (x0 + 3)).2 = true := by
            by_cases q9 : mjIn x2 (mjLay (x0 + 3)).2 = true
            · exact q9
            · rw [if_neg q9] at h; cases h
          rw [if_pos hk108] at h
          refine pG_ias rfl hk104 hk108 (?_ : pG 31 37 [some (.ref x0), some (.int x1), some (.int x2)] [] (mjTo (zSi Z (x0 + 3) (mjIx x2) ((Z.1 (x0 + 3) (mjIx (x2 - 1))) + (Z.1 (x0 + 1) (mjIx x2))))) _)
          rw [mjLet] at h
          generalize zSi Z (x0 + 3) (mjIx x2) ((Z.1 (x0 + 3) (mjIx (x2 - 1))) + (Z.1 (x0 + 1) (mjIx x2))) = Z109 at h ⊢
          refine pG_many 1 (pc1 := 38) (L1 := [some (.ref x0), some (.int x1), some (.int x2)]) (st1 := [.ref x0]) (M1 := mjTo Z109) (fun _ _ => rfl) ?_
          refine pG_getR (ci := 7) (f := 3) (b := x0 + 4) rfl rfl rfl hk101 (by decide) (mjRc7_3 hk101) ?_
          refine pG_many 5 (pc1 := 46) (L1 := [some (.ref x0), some (.int x1), some (.int x2)]) (st1 := [.ref x0, .int (x2 * x1), .int x2, .ref (x0 + 4)]) (M1 := mjTo Z109) (fun _ _ => rfl) ?_
          refine pG_getR (ci := 7) (f := 1) (b := x0 + 2) rfl rfl rfl hk101 (by decide) (mjRc7_1 hk101) ?_
          refine pG_many 1 (pc1 := 50) (L1 := [some (.ref x0), some (.int x1), some (.int x2)]) (st1 := [.int x2, .ref (x0 + 2), .int (x2 * x1), .int x2, .ref (x0 + 4)]) (M1 := mjTo Z109) (fun _ _ => rfl) ?_
          have hk110 : mjIs (x0 + 2) 211 13 = true := by
            by_cases q9 : mjIs (x0 + 2) 211 13 = true
            · exact q9
            · rw [if_neg q9] at h; cases h
          rw [if_pos hk110] at h
          have hk111 : mjIn x2 (mjLay (x0 + 2)).2 = true := by
            by_cases q9 : mjIn x2 (mjLay (x0 + 2)).2 = true
            · exact q9
            · rw [if_neg q9] at h; cases h
          rw [if_pos hk111] at h
          refine pG_ial rfl hk110 hk111 ?_
          refine pG_many 3 (pc1 := 55) (L1 := [some (.ref x0), some (.int x1), some (.int x2)]) (st1 := [.int (((x2 * x1) + (Z109.1 (x0 + 2) (mjIx x2))) * 10), .int x2, .ref (x0 + 4)]) (M1 := mjTo Z109) (fun _ _ => rfl) ?_
          have hk112 : mjIs (x0 + 4) 211 13 = true := by
            by_cases q9 : mjIs (x0 + 4) 211 13 = true
            · exact q9
            · rw [if_neg q9] at h; cases h
          rw [if_pos hk112] at h
          have hk113 : mjIn x2 (mjLay (x0 + 4)).2 = true := by
            by_cases q9 : mjIn x2 (mjLay (x0 + 4)).2 = true
            · exact q9
            · rw [if_neg q9] at h; cases h
          rw [if_pos hk113] at h
          refine pG_ias rfl hk112 hk113 (?_ : pG 31 56 [some (.ref x0), some (.int x1), some (.int x2)] [] (mjTo (zSi Z109 (x0 + 4) (mjIx x2) (((x2 * x1) + (Z109.1 (x0 + 2) (mjIx x2))) * 10))) _)
          rw [mjLet] at h
          generalize zSi Z109 (x0 + 4) (mjIx x2) (((x2 * x1) + (Z109.1 (x0 + 2) (mjIx x2))) * 10) = Z114 at h ⊢
          refine pG_many 2 (pc1 := 2) (L1 := [some (.ref x0), some (.int x1), some (.int (x2 + 1))]) (st1 := []) (M1 := mjTo Z114) (fun _ _ => rfl) ?_
          exact f31_settle_h2_ok n x0 x1 (x2 + 1) Z114 v9 Z9 h
def f31_settle (a0 : Nat) (p0 : Int32) (Z : mjZt) : Option (Unit × mjZt) :=
  f31_settle_h2 mjF a0 p0 1 Z
theorem f31_settle_ok {a0 : Nat} {p0 : Int32} {Z : mjZt} {v9 : Unit} {Z9 : mjZt} (h : f31_settle a0 p0 Z = some (v9, Z9)) : pG 31 0 (mjEnt [.ref a0, .int p0] (mjML 31)) [] (mjTo Z) (fun r M1 => r = none ∧ M1 = mjTo Z9) := by
  unfold f31_settle at h
  show pG 31 0 [some (.ref a0), some (.int p0), none] [] (mjTo Z) _
  refine pG_many 2 (pc1 := 2) (L1 := [some (.ref a0), some (.int p0), some (.int 1)]) (st1 := []) (M1 := mjTo Z) (fun _ _ => rfl) ?_
  exact f31_settle_h2_ok mjF a0 p0 1 Z v9 Z9 h
def f32_metresOf (a0 : Nat) (p0 : Int32) (Z : mjZt) : Option Int32 :=
  if mjIs a0 211 7 = true then
  mjBp (f5_at (a0 + 2) p0 Z) fun v103 =>
  some v103
  else none
theorem f32_metresOf_ok {a0 : Nat} {p0 : Int32} {Z : mjZt} {v9 : Int32} (h : f32_metresOf a0 p0 Z = some v9) : pG 32 0 (mjEnt [.ref a0, .int p0] (mjML 32)) [] (mjTo Z) (fun r M1 => r = some (.int v9) ∧ M1 = mjTo Z) := by
  unfold f32_metresOf at h
  show pG 32 0 [some (.ref a0), some (.int p0)] [] (mjTo Z) _
  refine pG_many 1 (pc1 := 1) (L1 := [some (.ref a0), some (.int p0)]) (st1 := [.ref a0]) (M1 := mjTo Z) (fun _ _ => rfl) ?_
  have hk101 : mjIs a0 211 7 = true := by
    by_cases q9 : mjIs a0 211 7 = true
    · exact q9
    · rw [if_neg q9] at h; cases h
  rw [if_pos hk101] at h
  refine pG_getR (ci := 7) (f := 1) (b := a0 + 2) rfl rfl rfl hk101 (by decide) (mjRc7_1 hk101) ?_
  refine pG_many 1 (pc1 := 5) (L1 := [some (.ref a0), some (.int p0)]) (st1 := [.int p0, .ref (a0 + 2)]) (M1 := mjTo Z) (fun _ _ => rfl) ?_
  cases hq102 : f5_at (a0 + 2) p0 Z with
  | none => rw [hq102] at h; cases h
  | some v103 =>
    rw [hq102, mjBp_some] at h
    refine pG_call (k2 := 5) (As := [.ref (a0 + 2), .int p0]) (rest := []) (fun _ _ => rfl) (by decide) (by decide) (f5_at_ok hq102) ?_
    rintro r9 M9 ⟨rfl, rfl⟩
    show pG 32 8 [some (.ref a0), some (.int p0)] [.int v103] (mjTo Z) _
    simp only [Option.some.injEq] at h
    subst h
    exact pG_ret (r := some (.int v103)) rfl ⟨rfl, rfl⟩
def f33_metresOutside (a0 : Nat) (p0 : Int32) (Z : mjZt) : Option Int32 :=
  if mjIs a0 211 2 = true then
  some (mjMax (mjMax ((-(Z.1 a0 2)) - p0) (p0 - (Z.1 a0 3))) 0)
  else none
theorem f33_metresOutside_ok {a0 : Nat} {p0 : Int32} {Z : mjZt} {v9 : Int32} (h : f33_metresOutside a0 p0 Z = some v9) : pG 33 0 (mjEnt [.ref a0, .int p0] (mjML 33)) [] (mjTo Z) (fun r M1 => r = some (.int v9) ∧ M1 = mjTo Z) := by
  unfold f33_metresOutside at h
  show pG 33 0 [some (.ref a0), some (.int p0)] [] (mjTo Z) _
  refine pG_many 1 (pc1 := 1) (L1 := [some (.ref a0), some (.int p0)]) (st1 := [.ref a0]) (M1 := mjTo Z) (fun _ _ => rfl) ?_
  have hk101 : mjIs a0 211 2 = true := by
    by_cases q9 : mjIs a0 211 2 = true
    · exact q9
    · rw [if_neg q9] at h; cases h
  rw [if_pos hk101] at h
  refine pG_getI (ci := 2) (f := 2) rfl rfl (Or.inl rfl) hk101 (by decide) ?_
  refine pG_many 5 (pc1 := 9) (L1 := [some (.ref a0), some (.int p0)]) (st1 := [.ref a0, .int p0, .int ((-(Z.1 a0 2)) - p0)]) (M1 := mjTo Z) (fun _ _ => rfl) ?_
  refine pG_getI (ci := 2) (f := 3) rfl rfl (Or.inl rfl) hk101 (by decide) ?_
  refine pG_many 1 (pc1 := 13) (L1 := [some (.ref a0), some (.int p0)]) (st1 := [.int (p0 - (Z.1 a0 3)), .int ((-(Z.1 a0 2)) - p0)]) (M1 := mjTo Z) (fun _ _ => rfl) ?_
  refine pG_prim (v := .int (mjMax ((-(Z.1 a0 2)) - p0) (p0 - (Z.1 a0 3)))) (fun _ _ => rfl) (by decide) rfl ?_
  refine pG_many 1 (pc1 := 17) (L1 := [some (.ref a0), some (.int p0)]) (st1 := [.int 0, .int (mjMax ((-(Z.1 a0 2)) - p0) (p0 - (Z.1 a0 3)))]) (M1 := mjTo Z) (fun _ _ => rfl) ?_
  refine pG_prim (v := .int (mjMax (mjMax ((-(Z.1 a0 2)) - p0) (p0 - (Z.1 a0 3))) 0)) (fun _ _ => rfl) (by decide) rfl ?_
  simp only [Option.some.injEq] at h
  subst h
  exact pG_ret (r := some (.int (mjMax (mjMax ((-(Z.1 a0 2)) - p0) (p0 - (Z.1 a0 3))) 0))) rfl ⟨rfl, rfl⟩
def f34_endOf (a0 : Nat) (p0 : Int32) (Z : mjZt) : Option Int32 :=
  if mjIs a0 211 7 = true then
  mjBp (f5_at (a0 + 3) p0 Z) fun v103 =>
  some v103
  else none
theorem f34_endOf_ok {a0 : Nat} {p0 : Int32} {Z : mjZt} {v9 : Int32} (h : f34_endOf a0 p0 Z = some v9) : pG 34 0 (mjEnt [.ref a0, .int p0] (mjML 34)) [] (mjTo Z) (fun r M1 => r = some (.int v9) ∧ M1 = mjTo Z) := by
  unfold f34_endOf at h
  show pG 34 0 [some (.ref a0), some (.int p0)] [] (mjTo Z) _
  refine pG_many 1 (pc1 := 1) (L1 := [some (.ref a0), some (.int p0)]) (st1 := [.ref a0]) (M1 := mjTo Z) (fun _ _ => rfl) ?_
  have hk101 : mjIs a0 211 7 = true := by
    by_cases q9 : mjIs a0 211 7 = true
    · exact q9
    · rw [if_neg q9] at h; cases h
  rw [if_pos hk101] at h
  refine pG_getR (ci := 7) (f := 2) (b := a0 + 3) rfl rfl rfl hk101 (by decide) (mjRc7_2 hk101) ?_
  refine pG_many 1 (pc1 := 5) (L1 := [some (.ref a0), some (.int p0)]) (st1 := [.int p0, .ref (a0 + 3)]) (M1 := mjTo Z) (fun _ _ => rfl) ?_
  cases hq102 : f5_at (a0 + 3) p0 Z with
  | none => rw [hq102] at h; cases h
  | some v103 =>
    rw [hq102, mjBp_some] at h
    refine pG_call (k2 := 5) (As := [.ref (a0 + 3), .int p0]) (rest := []) (fun _ _ => rfl) (by decide) (by decide) (f5_at_ok hq102) ?_
    rintro r9 M9 ⟨rfl, rfl⟩
    show pG 34 8 [some (.ref a0), some (.int p0)] [.int v103] (mjTo Z) _
    simp only [Option.some.injEq] at h
    subst h
    exact pG_ret (r := some (.int v103)) rfl ⟨rfl, rfl⟩
def f35_settle_h34 (K : Nat → Int32 → mjZt → Option (Unit × mjZt)) : Nat → Nat → Int32 → Nat → Int32 → mjZt → Option (Unit × mjZt)
  | 0, _, _, _, _, _ => none
  | n + 1, x0, x1, x2, x3, Z =>
    if mjIs x2 211 7 = true then
    if mjCmp .gt x3 (Z.1 x2 6) = true then
      K x0 x1 Z
    else
      if mjIs x0 211 2 = true then
      if mjCmp .ge x3 (Z.1 x0 0) = true then
        K x0 x1 Z
      else
        mjBp (f32_metresOf x2 x3 Z) fun v117 =>
        mjBp (f33_metresOutside x0 v117 Z) fun v120 =>
        mjBp (f6_deed x0 (Z.1 x0 7) Z) fun v123 =>
        mjBp (f34_endOf x2 x3 Z) fun v126 =>
        if mjIs v123 211 0 = true then
        mjBd (f1_tell v123 4 x1 ((-1)) v126 v120 Z) fun _ Z131 =>
        mjLet (zSi Z131 x0 7 ((Z131.1 x0 7) + 1)) fun Z132 =>
        f35_settle_h34 K n x0 x1 x2 (x3 + 1) Z132
        else none
      else none
    else none
theorem f35_settle_h34_ok (K : Nat → Int32 → mjZt → Option (Unit × mjZt)) (hK : ∀ (x0 : Nat) (x1 : Int32) (d2 d3 d4 : Option Value) (Z : mjZt) (v9 : Unit) (Z9 : mjZt), K x0 x1 Z = some (v9, Z9) → pG 35 98 [some (.ref x0), some (.int x1), d2, d3, d4] [] (mjTo Z) (fun r M1 => r = none ∧ M1 = mjTo Z9)) : ∀ (n : Nat) (x0 : Nat) (x1 : Int32) (x2 : Nat) (x3 : Int32) (d4 : Option Value) (Z : mjZt) (v9 : Unit) (Z9 : mjZt), f35_settle_h34 K n x0 x1 x2 x3 Z = some (v9, Z9) → pG 35 34 [some (.ref x0), some (.int x1), some (.ref x2), some (.int x3), d4] [] (mjTo Z) (fun r M1 => r = none ∧ M1 = mjTo Z9)
  | 0, x0, x1, x2, x3, d4, Z, v9, Z9, h => by rw [f35_settle_h34] at h; cases h
  | n + 1, x0, x1, x2, x3, d4, Z, v9, Z9, h => by
      rw [f35_settle_h34] at h
      refine pG_many 2 (pc1 := 36) (L1 := [some (.ref x0), some (.int x1), some (.ref x2), some (.int x3), d4]) (st1 := [.ref x2, .int x3]) (M1 := mjTo Z) (fun _ _ => rfl) ?_
      have hk112 : mjIs x2 211 7 = true := by
        by_cases q9 : mjIs x2 211 7 = true
        · exact q9
        · rw [if_neg q9] at h; cases h
      rw [if_pos hk112] at h
      refine pG_getI (ci := 7) (f := 6) rfl rfl (Or.inl rfl) hk112 (by decide) ?_
      by_cases hc113 : mjCmp .gt x3 (Z.1 x2 6) = true
      · rw [if_pos hc113] at h
        refine pG_cmt (t := 98) rfl rfl hc113 ?_
        exact hK x0 x1 (some (.ref x2)) (some (.int x3)) d4 Z v9 Z9 h
      · rw [if_neg hc113] at h
        refine pG_cmf (t := 98) rfl rfl hc113 ?_
        refine pG_many 2 (pc1 := 44) (L1 := [some (.ref x0), some (.int x1), some (.ref x2), some (.int x3), d4]) (st1 := [.ref x0, .int x3]) (M1 := mjTo Z) (fun _ _ => rfl) ?_
        have hk114 : mjIs x0 211 2 = true := by
          by_cases q9 : mjIs x0 211 2 = true
          · exact q9
          · rw [if_neg q9] at h; cases h
        rw [if_pos hk114] at h
        refine pG_getI (ci := 2) (f := 0) rfl rfl (Or.inl rfl) hk114 (by decide) ?_
        by_cases hc115 : mjCmp .ge x3 (Z.1 x0 0) = true
        · rw [if_pos hc115] at h
          refine pG_cmt (t := 98) rfl rfl hc115 ?_
          exact hK x0 x1 (some (.ref x2)) (some (.int x3)) d4 Z v9 Z9 h
        · rw [if_neg hc115] at h
          refine pG_cmf (t := 98) rfl rfl hc115 ?_
          refine pG_many 3 (pc1 := 53) (L1 := [some (.ref x0), some (.int x1), some (.ref x2), some (.int x3), d4]) (st1 := [.int x3, .ref x2, .ref x0]) (M1 := mjTo Z) (fun _ _ => rfl) ?_
          cases hq116 : f32_metresOf x2 x3 Z with
          | none => rw [hq116] at h; cases h
          | some v117 =>
            rw [hq116, mjBp_some] at h
            refine pG_callV (k2 := 32) (As := [.ref x2, .int x3]) (rest := [.ref x0]) rfl rfl rfl rfl rfl (mjRcv_is hk112 (by decide)) (by decide) (by decide) (f32_metresOf_ok hq116) ?_
            rintro r9 M9 ⟨rfl, rfl⟩
            show pG 35 56 [some (.ref x0), some (.int x1), some (.ref x2), some (.int x3), d4] [.int v117, .ref x0] (mjTo Z) _
            cases hq119 : f33_metresOutside x0 v117 Z with
            | none => rw [hq119] at h; cases h
            | some v120 =>
              rw [hq119, mjBp_some] at h
              refine pG_callV (k2 := 33) (As := [.ref x0, .int v117]) (rest := []) rfl rfl rfl rfl rfl (mjRcv_is hk114 (by decide)) (by decide) (by decide) (f33_metresOutside_ok hq119) ?_
              rintro r9 M9 ⟨rfl, rfl⟩
              show pG 35 59 [some (.ref x0), some (.int x1), some (.ref x2), some (.int x3), d4] [.int v120] (mjTo Z) _
              refine pG_many 3 (pc1 := 63) (L1 := [some (.ref x0), some (.int x1), some (.ref x2), some (.int x3), some (.int v120)]) (st1 := [.ref x0, .ref x0]) (M1 := mjTo Z) (fun _ _ => rfl) ?_
              refine pG_getI (ci := 2) (f := 7) rfl rfl (Or.inl rfl) hk114 (by decide) ?_
              cases hq122 : f6_deed x0 (Z.1 x0 7) Z with
              | none => rw [hq122] at h; cases h
              | some v123 =>
                rw [hq122, mjBp_some] at h
                refine pG_callV (k2 := 6) (As := [.ref x0, .int (Z.1 x0 7)]) (rest := []) rfl rfl rfl rfl rfl (mjRcv_is hk114 (by decide)) (by decide) (by decide) (f6_deed_ok hq122) ?_
                rintro r9 M9 ⟨rfl, rfl⟩
                show pG 35 69 [some (.ref x0), some (.int x1), some (.ref x2), some (.int x3), some (.int v120)] [.ref v123] (mjTo Z) _
                refine pG_many 5 (pc1 := 74) (L1 := [some (.ref x0), some (.int x1), some (.ref x2), some (.int x3), some (.int v120)]) (st1 := [.int x3, .ref x2, .int ((-1)), .int x1, .int 4, .ref v123]) (M1 := mjTo Z) (fun _ _ => rfl) ?_
                cases hq125 : f34_endOf x2 x3 Z with
                | none => rw [hq125] at h; cases h
                | some v126 =>
                  rw [hq125, mjBp_some] at h
                  refine pG_callV (k2 := 34) (As := [.ref x2, .int x3]) (rest := [.int ((-1)), .int x1, .int 4, .ref v123]) rfl rfl rfl rfl rfl (mjRcv_is hk112 (by decide)) (by decide) (by decide) (f34_endOf_ok hq125) ?_
                  rintro r9 M9 ⟨rfl, rfl⟩
                  show pG 35 77 [some (.ref x0), some (.int x1), some (.ref x2), some (.int x3), some (.int v120)] [.int v126, .int ((-1)), .int x1, .int 4, .ref v123] (mjTo Z) _
                  refine pG_many 1 (pc1 := 79) (L1 := [some (.ref x0), some (.int x1), some (.ref x2), some (.int x3), some (.int v120)]) (st1 := [.int v120, .int v126, .int ((-1)), .int x1, .int 4, .ref v123]) (M1 := mjTo Z) (fun _ _ => rfl) ?_
                  have hk128 : mjIs v123 211 0 = true := by
                    by_cases q9 : mjIs v123 211 0 = true
                    · exact q9
                    · rw [if_neg q9] at h; cases h
                  rw [if_pos hk128] at h
                  cases hq129 : f1_tell v123 4 x1 ((-1)) v126 v120 Z with
                  | none => rw [hq129] at h; cases h
                  | some w =>
                    obtain ⟨v130, Z131⟩ := w
                    rw [hq129, mjBd_some] at h
                    refine pG_callV (k2 := 1) (As := [.ref v123, .int 4, .int x1, .int ((-1)), .int v126, .int v120]) (rest := []) rfl rfl rfl rfl rfl (mjRcv_is hk128 (by decide)) (by decide) (by decide) (f1_tell_ok hq129) ?_
                    rintro r9 M9 ⟨rfl, rfl⟩
                    show pG 35 82 [some (.ref x0), some (.int x1), some (.ref x2), some (.int x3), some (.int v120)] [] (mjTo Z131) _
                    refine pG_many 2 (pc1 := 84) (L1 := [some (.ref x0), some (.int x1), some (.ref x2), some (.int x3), some (.int v120)]) (st1 := [.ref x0, .ref x0]) (M1 := mjTo Z131) (fun _ _ => rfl) ?_
                    refine pG_getI (ci := 2) (f := 7) rfl rfl (Or.inl rfl) hk114 (by decide) ?_
                    refine pG_many 2 (pc1 := 89) (L1 := [some (.ref x0), some (.int x1), some (.ref x2), some (.int x3), some (.int v120)]) (st1 := [.int ((Z131.1 x0 7) + 1), .ref x0]) (M1 := mjTo Z131) (fun _ _ => rfl) ?_
                    refine pG_putI (ci := 2) (f := 7) rfl rfl rfl rfl hk114 (by decide) ?_
                    rw [mjLet] at h
                    generalize zSi Z131 x0 7 ((Z131.1 x0 7) + 1) = Z132 at h ⊢
                    refine pG_many 2 (pc1 := 34) (L1 := [some (.ref x0), some (.int x1), some (.ref x2), some (.int (x3 + 1)), some (.int v120)]) (st1 := []) (M1 := mjTo Z132) (fun _ _ => rfl) ?_
                    exact f35_settle_h34_ok K hK n x0 x1 x2 (x3 + 1) (some (.int v120)) Z132 v9 Z9 h
def f35_settle_h10 : Nat → Nat → Int32 → mjZt → Option (Unit × mjZt)
  | 0, _, _, _ => none
  | n + 1, x0, x1, Z =>
    if mjIs x0 211 2 = true then
    if mjCmp .ge x1 (Z.1 x0 5) = true then
      some ((), Z)
    else
      mjBp (f8_runner x0 x1 Z) fun v106 =>
      if mjIs v106 211 7 = true then
      mjBd (f31_settle v106 (Z.1 x0 1) Z) fun _ Z111 =>
      f35_settle_h34 (fun x0_Z133 x1_Z133 Z133 =>
        f35_settle_h10 n x0_Z133 (x1_Z133 + 1) Z133
        ) mjF x0 x1 v106 1 Z111
      else none
    else none
theorem f35_settle_h10_ok : ∀ (n : Nat) (x0 : Nat) (x1 : Int32) (d2 d3 d4 : Option Value) (Z : mjZt) (v9 : Unit) (Z9 : mjZt), f35_settle_h10 n x0 x1 Z = some (v9, Z9) → pG 35 10 [some (.ref x0), some (.int x1), d2, d3, d4] [] (mjTo Z) (fun r M1 => r = none ∧ M1 = mjTo Z9)
  | 0, x0, x1, d2, d3, d4, Z, v9, Z9, h => by rw [f35_settle_h10] at h; cases h
  | n + 1, x0, x1, d2, d3, d4, Z, v9, Z9, h => by
      rw [f35_settle_h10] at h
      refine pG_many 2 (pc1 := 12) (L1 := [some (.ref x0), some (.int x1), d2, d3, d4]) (st1 := [.ref x0, .int x1]) (M1 := mjTo Z) (fun _ _ => rfl) ?_
      have hk103 : mjIs x0 211 2 = true := by
        by_cases q9 : mjIs x0 211 2 = true
        · exact q9
        · rw [if_neg q9] at h; cases h
      rw [if_pos hk103] at h
      refine pG_getI (ci := 2) (f := 5) rfl rfl (Or.inl rfl) hk103 (by decide) ?_
      by_cases hc104 : mjCmp .ge x1 (Z.1 x0 5) = true
      · rw [if_pos hc104] at h
        refine pG_cmt (t := 104) rfl rfl hc104 ?_
        simp only [Option.some.injEq, Prod.mk.injEq] at h
        obtain ⟨-, rfl⟩ := h
        exact pG_ret (r := none) rfl ⟨rfl, rfl⟩
      · rw [if_neg hc104] at h
        refine pG_cmf (t := 104) rfl rfl hc104 ?_
        refine pG_many 2 (pc1 := 20) (L1 := [some (.ref x0), some (.int x1), d2, d3, d4]) (st1 := [.int x1, .ref x0]) (M1 := mjTo Z) (fun _ _ => rfl) ?_
        cases hq105 : f8_runner x0 x1 Z with
        | none => rw [hq105] at h; cases h
        | some v106 =>
          rw [hq105, mjBp_some] at h
          refine pG_callV (k2 := 8) (As := [.ref x0, .int x1]) (rest := []) rfl rfl rfl rfl rfl (mjRcv_is hk103 (by decide)) (by decide) (by decide) (f8_runner_ok hq105) ?_
          rintro r9 M9 ⟨rfl, rfl⟩
          show pG 35 23 [some (.ref x0), some (.int x1), d2, d3, d4] [.ref v106] (mjTo Z) _
          refine pG_many 3 (pc1 := 26) (L1 := [some (.ref x0), some (.int x1), some (.ref v106), d3, d4]) (st1 := [.ref x0, .ref v106]) (M1 := mjTo Z) (fun _ _ => rfl) ?_
          refine pG_getI (ci := 2) (f := 1) rfl rfl (Or.inl rfl) hk103 (by decide) ?_
          have hk108 : mjIs v106 211 7 = true := by
            by_cases q9 : mjIs v106 211 7 = true
            · exact q9
            · rw [if_neg q9] at h; cases h
          rw [if_pos hk108] at h
          cases hq109 : f31_settle v106 (Z.1 x0 1) Z with
          | none => rw [hq109] at h; cases h
          | some w =>
            obtain ⟨v110, Z111⟩ := w
            rw [hq109, mjBd_some] at h
            refine pG_callV (k2 := 31) (As := [.ref v106, .int (Z.1 x0 1)]) (rest := []) rfl rfl rfl rfl rfl (mjRcv_is hk108 (by decide)) (by decide) (by decide) (f31_settle_ok hq109) ?_
            rintro r9 M9 ⟨rfl, rfl⟩
            show pG 35 32 [some (.ref x0), some (.int x1), some (.ref v106), d3, d4] [] (mjTo Z111) _
            refine pG_many 2 (pc1 := 34) (L1 := [some (.ref x0), some (.int x1), some (.ref v106), some (.int 1), d4]) (st1 := []) (M1 := mjTo Z111) (fun _ _ => rfl) ?_
            refine f35_settle_h34_ok _ ?_ mjF x0 x1 v106 1 d4 Z111 v9 Z9 h
            clear h
            intro x0_Z133 x1_Z133 d2 d3 d4 Z133 v9 Z9 h
            refine pG_many 2 (pc1 := 10) (L1 := [some (.ref x0_Z133), some (.int (x1_Z133 + 1)), d2, d3, d4]) (st1 := []) (M1 := mjTo Z133) (fun _ _ => rfl) ?_
            exact f35_settle_h10_ok n x0_Z133 (x1_Z133 + 1) d2 d3 d4 Z133 v9 Z9 h
def f35_settle (a0 : Nat) (Z : mjZt) : Option (Unit × mjZt) :=
  if mjIs a0 211 2 = true then
  mjLet (zSi Z a0 7 (Z.1 a0 6)) fun Z102 =>
  f35_settle_h10 mjF a0 0 Z102
  else none
theorem f35_settle_ok {a0 : Nat} {Z : mjZt} {v9 : Unit} {Z9 : mjZt} (h : f35_settle a0 Z = some (v9, Z9)) : pG 35 0 (mjEnt [.ref a0] (mjML 35)) [] (mjTo Z) (fun r M1 => r = none ∧ M1 = mjTo Z9) := by
  unfold f35_settle at h
  show pG 35 0 [some (.ref a0), none, none, none, none] [] (mjTo Z) _
  refine pG_many 2 (pc1 := 2) (L1 := [some (.ref a0), none, none, none, none]) (st1 := [.ref a0, .ref a0]) (M1 := mjTo Z) (fun _ _ => rfl) ?_
  have hk101 : mjIs a0 211 2 = true := by
    by_cases q9 : mjIs a0 211 2 = true
    · exact q9
    · rw [if_neg q9] at h; cases h
  rw [if_pos hk101] at h
  refine pG_getI (ci := 2) (f := 6) rfl rfl (Or.inl rfl) hk101 (by decide) ?_
  refine pG_putI (ci := 2) (f := 7) rfl rfl rfl rfl hk101 (by decide) ?_
  rw [mjLet] at h
  generalize zSi Z a0 7 (Z.1 a0 6) = Z102 at h ⊢
  refine pG_many 2 (pc1 := 10) (L1 := [some (.ref a0), some (.int 0), none, none, none]) (st1 := []) (M1 := mjTo Z102) (fun _ _ => rfl) ?_
  exact f35_settle_h10_ok mjF a0 0 none none none Z102 v9 Z9 h
def f36_boxFrom (a0 : Nat) (p0 : Int32) (Z : mjZt) : Option Int32 :=
  if mjIs a0 211 2 = true then
  some (((p0 * (Z.1 a0 1)) - (Z.1 a0 2)) * 10)
  else none
theorem f36_boxFrom_ok {a0 : Nat} {p0 : Int32} {Z : mjZt} {v9 : Int32} (h : f36_boxFrom a0 p0 Z = some v9) : pG 36 0 (mjEnt [.ref a0, .int p0] (mjML 36)) [] (mjTo Z) (fun r M1 => r = some (.int v9) ∧ M1 = mjTo Z) := by
  unfold f36_boxFrom at h
  show pG 36 0 [some (.ref a0), some (.int p0)] [] (mjTo Z) _
  refine pG_many 2 (pc1 := 2) (L1 := [some (.ref a0), some (.int p0)]) (st1 := [.ref a0, .int p0]) (M1 := mjTo Z) (fun _ _ => rfl) ?_
  have hk101 : mjIs a0 211 2 = true := by
    by_cases q9 : mjIs a0 211 2 = true
    · exact q9
    · rw [if_neg q9] at h; cases h
  rw [if_pos hk101] at h
  refine pG_getI (ci := 2) (f := 1) rfl rfl (Or.inl rfl) hk101 (by decide) ?_
  refine pG_many 2 (pc1 := 7) (L1 := [some (.ref a0), some (.int p0)]) (st1 := [.ref a0, .int (p0 * (Z.1 a0 1))]) (M1 := mjTo Z) (fun _ _ => rfl) ?_
  refine pG_getI (ci := 2) (f := 2) rfl rfl (Or.inl rfl) hk101 (by decide) ?_
  refine pG_many 3 (pc1 := 14) (L1 := [some (.ref a0), some (.int p0)]) (st1 := [.int (((p0 * (Z.1 a0 1)) - (Z.1 a0 2)) * 10)]) (M1 := mjTo Z) (fun _ _ => rfl) ?_
  simp only [Option.some.injEq] at h
  subst h
  exact pG_ret (r := some (.int (((p0 * (Z.1 a0 1)) - (Z.1 a0 2)) * 10))) rfl ⟨rfl, rfl⟩
def f37_boxTo (a0 : Nat) (p0 : Int32) (Z : mjZt) : Option Int32 :=
  if mjIs a0 211 2 = true then
  some (((p0 * (Z.1 a0 1)) + (Z.1 a0 3)) * 10)
  else none
theorem f37_boxTo_ok {a0 : Nat} {p0 : Int32} {Z : mjZt} {v9 : Int32} (h : f37_boxTo a0 p0 Z = some v9) : pG 37 0 (mjEnt [.ref a0, .int p0] (mjML 37)) [] (mjTo Z) (fun r M1 => r = some (.int v9) ∧ M1 = mjTo Z) := by
  unfold f37_boxTo at h
  show pG 37 0 [some (.ref a0), some (.int p0)] [] (mjTo Z) _
  refine pG_many 2 (pc1 := 2) (L1 := [some (.ref a0), some (.int p0)]) (st1 := [.ref a0, .int p0]) (M1 := mjTo Z) (fun _ _ => rfl) ?_
  have hk101 : mjIs a0 211 2 = true := by
    by_cases q9 : mjIs a0 211 2 = true
    · exact q9
    · rw [if_neg q9] at h; cases h
  rw [if_pos hk101] at h
  refine pG_getI (ci := 2) (f := 1) rfl rfl (Or.inl rfl) hk101 (by decide) ?_
  refine pG_many 2 (pc1 := 7) (L1 := [some (.ref a0), some (.int p0)]) (st1 := [.ref a0, .int (p0 * (Z.1 a0 1))]) (M1 := mjTo Z) (fun _ _ => rfl) ?_
  refine pG_getI (ci := 2) (f := 3) rfl rfl (Or.inl rfl) hk101 (by decide) ?_
  refine pG_many 3 (pc1 := 14) (L1 := [some (.ref a0), some (.int p0)]) (st1 := [.int (((p0 * (Z.1 a0 1)) + (Z.1 a0 3)) * 10)]) (M1 := mjTo Z) (fun _ _ => rfl) ?_
  simp only [Option.some.injEq] at h
  subst h
  exact pG_ret (r := some (.int (((p0 * (Z.1 a0 1)) + (Z.1 a0 3)) * 10))) rfl ⟨rfl, rfl⟩
def f38_isInABox_h2 : Nat → Nat → Int32 → Int32 → mjZt → Option Int32
  | 0, _, _, _, _ => none
  | n + 1, x0, x1, x2, Z =>
    if mjIs x0 211 2 = true then
    if mjCmp .ge x2 (Z.1 x0 0) = true then
      some 0
    else
      mjBp (f36_boxFrom x0 x2 Z) fun v104 =>
      if mjCmp .lt x1 v104 = true then
        f38_isInABox_h2 n x0 x1 (x2 + 1) Z
      else
        mjBp (f37_boxTo x0 x2 Z) fun v108 =>
        if mjCmp .gt x1 v108 = true then
          f38_isInABox_h2 n x0 x1 (x2 + 1) Z
        else
          some 1
    else none
theorem f38_isInABox_h2_ok : ∀ (n : Nat) (x0 : Nat) (x1 : Int32) (x2 : Int32) (Z : mjZt) (v9 : Int32), f38_isInABox_h2 n x0 x1 x2 Z = some v9 → pG 38 2 [some (.ref x0), some (.int x1), some (.int x2)] [] (mjTo Z) (fun r M1 => r = some (.int v9) ∧ M1 = mjTo Z)
  | 0, x0, x1, x2, Z, v9, h => by rw [f38_isInABox_h2] at h; cases h
  | n + 1, x0, x1, x2, Z, v9, h => by
      rw [f38_isInABox_h2] at h
      refine pG_many 2 (pc1 := 4) (L1 := [some (.ref x0), some (.int x1), some (.int x2)]) (st1 := [.ref x0, .int x2]) (M1 := mjTo Z) (fun _ _ => rfl) ?_
      have hk101 : mjIs x0 211 2 = true := by
        by_cases q9 : mjIs x0 211 2 = true
        · exact q9
        · rw [if_neg q9] at h; cases h
      rw [if_pos hk101] at h
      refine pG_getI (ci := 2) (f := 0) rfl rfl (Or.inl rfl) hk101 (by decide) ?_
      by_cases hc102 : mjCmp .ge x2 (Z.1 x0 0) = true
      · rw [if_pos hc102] at h
        refine pG_cmt (t := 36) rfl rfl hc102 ?_
        refine pG_many 1 (pc1 := 37) (L1 := [some (.ref x0), some (.int x1), some (.int x2)]) (st1 := [.int 0]) (M1 := mjTo Z) (fun _ _ => rfl) ?_
        simp only [Option.some.injEq] at h
        subst h
        exact pG_ret (r := some (.int 0)) rfl ⟨rfl, rfl⟩
      · rw [if_neg hc102] at h
        refine pG_cmf (t := 36) rfl rfl hc102 ?_
        refine pG_many 3 (pc1 := 13) (L1 := [some (.ref x0), some (.int x1), some (.int x2)]) (st1 := [.int x2, .ref x0, .int x1]) (M1 := mjTo Z) (fun _ _ => rfl) ?_
        cases hq103 : f36_boxFrom x0 x2 Z with
        | none => rw [hq103] at h; cases h
        | some v104 =>
          rw [hq103, mjBp_some] at h
          refine pG_callV (k2 := 36) (As := [.ref x0, .int x2]) (rest := [.int x1]) rfl rfl rfl rfl rfl (mjRcv_is hk101 (by decide)) (by decide) (by decide) (f36_boxFrom_ok hq103) ?_
          rintro r9 M9 ⟨rfl, rfl⟩
          show pG 38 16 [some (.ref x0), some (.int x1), some (.int x2)] [.int v104, .int x1] (mjTo Z) _
          by_cases hc106 : mjCmp .lt x1 v104 = true
          · rw [if_pos hc106] at h
            refine pG_cmt (t := 30) rfl rfl hc106 ?_
            refine pG_many 2 (pc1 := 2) (L1 := [some (.ref x0), some (.int x1), some (.int (x2 + 1))]) (st1 := []) (M1 := mjTo Z) (fun _ _ => rfl) ?_
            exact f38_isInABox_h2_ok n x0 x1 (x2 + 1) Z v9 h
          · rw [if_neg hc106] at h
            refine pG_cmf (t := 30) rfl rfl hc106 ?_
            refine pG_many 3 (pc1 := 22) (L1 := [some (.ref x0), some (.int x1), some (.int x2)]) (st1 := [.int x2, .ref x0, .int x1]) (M1 := mjTo Z) (fun _ _ => rfl) ?_
            cases hq107 : f37_boxTo x0 x2 Z with
            | none => rw [hq107] at h; cases h
            | some v108 =>
              rw [hq107, mjBp_some] at h
              refine pG_callV (k2 := 37) (As := [.ref x0, .int x2]) (rest := [.int x1]) rfl rfl rfl rfl rfl (mjRcv_is hk101 (by decide)) (by decide) (by decide) (f37_boxTo_ok hq107) ?_
              rintro r9 M9 ⟨rfl, rfl⟩
              show pG 38 25 [some (.ref x0), some (.int x1), some (.int x2)] [.int v108, .int x1] (mjTo Z) _
              by_cases hc110 : mjCmp .gt x1 v108 = true
              · rw [if_pos hc110] at h
                refine pG_cmt (t := 30) rfl rfl hc110 ?_
                refine pG_many 2 (pc1 := 2) (L1 := [some (.ref x0), some (.int x1), some (.int (x2 + 1))]) (st1 := []) (M1 := mjTo Z) (fun _ _ => rfl) ?_
                exact f38_isInABox_h2_ok n x0 x1 (x2 + 1) Z v9 h
              · rw [if_neg hc110] at h
                refine pG_cmf (t := 30) rfl rfl hc110 ?_
                refine pG_many 1 (pc1 := 29) (L1 := [some (.ref x0), some (.int x1), some (.int x2)]) (st1 := [.int 1]) (M1 := mjTo Z) (fun _ _ => rfl) ?_
                simp only [Option.some.injEq] at h
                subst h
                exact pG_ret (r := some (.int 1)) rfl ⟨rfl, rfl⟩
def f38_isInABox (a0 : Nat) (p0 : Int32) (Z : mjZt) : Option Int32 :=
  f38_isInABox_h2 mjF a0 p0 1 Z
theorem f38_isInABox_ok {a0 : Nat} {p0 : Int32} {Z : mjZt} {v9 : Int32} (h : f38_isInABox a0 p0 Z = some v9) : pG 38 0 (mjEnt [.ref a0, .int p0] (mjML 38)) [] (mjTo Z) (fun r M1 => r = some (.int v9) ∧ M1 = mjTo Z) := by
  unfold f38_isInABox at h
  show pG 38 0 [some (.ref a0), some (.int p0), none] [] (mjTo Z) _
  refine pG_many 2 (pc1 := 2) (L1 := [some (.ref a0), some (.int p0), some (.int 1)]) (st1 := []) (M1 := mjTo Z) (fun _ _ => rfl) ?_
  exact f38_isInABox_h2_ok mjF a0 p0 1 Z v9 h
def f39_passOf (a0 : Nat) (p0 : Int32) (Z : mjZt) : Option Int32 :=
  if mjIs a0 211 7 = true then
  mjBp (f5_at (a0 + 4) p0 Z) fun v103 =>
  some v103
  else none
theorem f39_passOf_ok {a0 : Nat} {p0 : Int32} {Z : mjZt} {v9 : Int32} (h : f39_passOf a0 p0 Z = some v9) : pG 39 0 (mjEnt [.ref a0, .int p0] (mjML 39)) [] (mjTo Z) (fun r M1 => r = some (.int v9) ∧ M1 = mjTo Z) := by
  unfold f39_passOf at h
  show pG 39 0 [some (.ref a0), some (.int p0)] [] (mjTo Z) _
  refine pG_many 1 (pc1 := 1) (L1 := [some (.ref a0), some (.int p0)]) (st1 := [.ref a0]) (M1 := mjTo Z) (fun _ _ => rfl) ?_
  have hk101 : mjIs a0 211 7 = true := by
    by_cases q9 : mjIs a0 211 7 = true
    · exact q9
    · rw [if_neg q9] at h; cases h
  rw [if_pos hk101] at h
  refine pG_getR (ci := 7) (f := 3) (b := a0 + 4) rfl rfl rfl hk101 (by decide) (mjRc7_3 hk101) ?_
  refine pG_many 1 (pc1 := 5) (L1 := [some (.ref a0), some (.int p0)]) (st1 := [.int p0, .ref (a0 + 4)]) (M1 := mjTo Z) (fun _ _ => rfl) ?_
  cases hq102 : f5_at (a0 + 4) p0 Z with
  | none => rw [hq102] at h; cases h
  | some v103 =>
    rw [hq102, mjBp_some] at h
    refine pG_call (k2 := 5) (As := [.ref (a0 + 4), .int p0]) (rest := []) (fun _ _ => rfl) (by decide) (by decide) (f5_at_ok hq102) ?_
    rintro r9 M9 ⟨rfl, rfl⟩
    show pG 39 8 [some (.ref a0), some (.int p0)] [.int v103] (mjTo Z) _
    simp only [Option.some.injEq] at h
    subst h
    exact pG_ret (r := some (.int v103)) rfl ⟨rfl, rfl⟩
def f40_runInBox (a0 : Nat) (p0 : Nat) (p1 : Int32) (p2 : Int32) (Z : mjZt) : Option Int32 :=
  if mjCmp .lt p2 1 = true then
    some 0
  else
    if mjIs a0 211 2 = true then
    if mjCmp .lt p2 (Z.1 a0 0) = true then
      if mjIs p0 211 7 = true then
      mjBp (f39_passOf p0 (p1 - 1) Z) fun v106 =>
      mjBp (f36_boxFrom a0 p2 Z) fun v109 =>
      mjBp (f39_passOf p0 p1 Z) fun v112 =>
      mjBp (f37_boxTo a0 p2 Z) fun v115 =>
      some (mjMax ((mjMin v112 v115) - (mjMax v106 v109)) 0)
      else none
    else
      some 0
    else none
theorem f40_runInBox_ok {a0 : Nat} {p0 : Nat} {p1 : Int32} {p2 : Int32} {Z : mjZt} {v9 : Int32} (h : f40_runInBox a0 p0 p1 p2 Z = some v9) : pG 40 0 (mjEnt [.ref a0, .ref p0, .int p1, .int p2] (mjML 40)) [] (mjTo Z) (fun r M1 => r = some (.int v9) ∧ M1 = mjTo Z) := by
  unfold f40_runInBox at h
  show pG 40 0 [some (.ref a0), some (.ref p0), some (.int p1), some (.int p2), none, none] [] (mjTo Z) _
  refine pG_many 2 (pc1 := 2) (L1 := [some (.ref a0), some (.ref p0), some (.int p1), some (.int p2), none, none]) (st1 := [.int 1, .int p2]) (M1 := mjTo Z) (fun _ _ => rfl) ?_
  by_cases hc101 : mjCmp .lt p2 1 = true
  · rw [if_pos hc101] at h
    refine pG_cmt (t := 13) rfl rfl hc101 ?_
    refine pG_many 1 (pc1 := 14) (L1 := [some (.ref a0), some (.ref p0), some (.int p1), some (.int p2), none, none]) (st1 := [.int 0]) (M1 := mjTo Z) (fun _ _ => rfl) ?_
    simp only [Option.some.injEq] at h
    subst h
    exact pG_ret (r := some (.int 0)) rfl ⟨rfl, rfl⟩
  · rw [if_neg hc101] at h
    refine pG_cmf (t := 13) rfl rfl hc101 ?_
    refine pG_many 2 (pc1 := 7) (L1 := [some (.ref a0), some (.ref p0), some (.int p1), some (.int p2), none, none]) (st1 := [.ref a0, .int p2]) (M1 := mjTo Z) (fun _ _ => rfl) ?_
    have hk102 : mjIs a0 211 2 = true := by
      by_cases q9 : mjIs a0 211 2 = true
      · exact q9
      · rw [if_neg q9] at h; cases h
    rw [if_pos hk102] at h
    refine pG_getI (ci := 2) (f := 0) rfl rfl (Or.inl rfl) hk102 (by decide) ?_
    by_cases hc103 : mjCmp .lt p2 (Z.1 a0 0) = true
    · rw [if_pos hc103] at h
      refine pG_cmt (t := 15) rfl rfl hc103 ?_
      refine pG_many 4 (pc1 := 19) (L1 := [some (.ref a0), some (.ref p0), some (.int p1), some (.int p2), none, none]) (st1 := [.int (p1 - 1), .ref p0]) (M1 := mjTo Z) (fun _ _ => rfl) ?_
      have hk104 : mjIs p0 211 7 = true := by
        by_cases q9 : mjIs p0 211 7 = true
        · exact q9
        · rw [if_neg q9] at h; cases h
      rw [if_pos hk104] at h
      cases hq105 : f39_passOf p0 (p1 - 1) Z with
      | none => rw [hq105] at h; cases h
      | some v106 =>
        rw [hq105, mjBp_some] at h
        refine pG_callV (k2 := 39) (As := [.ref p0, .int (p1 - 1)]) (rest := []) rfl rfl rfl rfl rfl (mjRcv_is hk104 (by decide)) (by decide) (by decide) (f39_passOf_ok hq105) ?_
        rintro r9 M9 ⟨rfl, rfl⟩
        show pG 40 22 [some (.ref a0), some (.ref p0), some (.int p1), some (.int p2), none, none] [.int v106] (mjTo Z) _
        refine pG_many 2 (pc1 := 24) (L1 := [some (.ref a0), some (.ref p0), some (.int p1), some (.int p2), none, none]) (st1 := [.int p2, .ref a0, .int v106]) (M1 := mjTo Z) (fun _ _ => rfl) ?_
        cases hq108 : f36_boxFrom a0 p2 Z with
        | none => rw [hq108] at h; cases h
        | some v109 =>
          rw [hq108, mjBp_some] at h
          refine pG_callV (k2 := 36) (As := [.ref a0, .int p2]) (rest := [.int v106]) rfl rfl rfl rfl rfl (mjRcv_is hk102 (by decide)) (by decide) (by decide) (f36_boxFrom_ok hq108) ?_
          rintro r9 M9 ⟨rfl, rfl⟩
          show pG 40 27 [some (.ref a0), some (.ref p0), some (.int p1), some (.int p2), none, none] [.int v109, .int v106] (mjTo Z) _
          refine pG_prim (v := .int (mjMax v106 v109)) (fun _ _ => rfl) (by decide) rfl ?_
          refine pG_many 3 (pc1 := 34) (L1 := [some (.ref a0), some (.ref p0), some (.int p1), some (.int p2), some (.int (mjMax v106 v109)), none]) (st1 := [.int p1, .ref p0]) (M1 := mjTo Z) (fun _ _ => rfl) ?_
          cases hq111 : f39_passOf p0 p1 Z with
          | none => rw [hq111] at h; cases h
          | some v112 =>
            rw [hq111, mjBp_some] at h
            refine pG_callV (k2 := 39) (As := [.ref p0, .int p1]) (rest := []) rfl rfl rfl rfl rfl (mjRcv_is hk104 (by decide)) (by decide) (by decide) (f39_passOf_ok hq111) ?_
            rintro r9 M9 ⟨rfl, rfl⟩
            show pG 40 37 [some (.ref a0), some (.ref p0), some (.int p1), some (.int p2), some (.int (mjMax v106 v109)), none] [.int v112] (mjTo Z) _
            refine pG_many 2 (pc1 := 39) (L1 := [some (.ref a0), some (.ref p0), some (.int p1), some (.int p2), some (.int (mjMax v106 v109)), none]) (st1 := [.int p2, .ref a0, .int v112]) (M1 := mjTo Z) (fun _ _ => rfl) ?_
            cases hq114 : f37_boxTo a0 p2 Z with
            | none => rw [hq114] at h; cases h
            | some v115 =>
              rw [hq114, mjBp_some] at h
              refine pG_callV (k2 := 37) (As := [.ref a0, .int p2]) (rest := [.int v112]) rfl rfl rfl rfl rfl (mjRcv_is hk102 (by decide)) (by decide) (by decide) (f37_boxTo_ok hq114) ?_
              rintro r9 M9 ⟨rfl, rfl⟩
              show pG 40 42 [some (.ref a0), some (.ref p0), some (.int p1), some (.int p2), some (.int (mjMax v106 v109)), none] [.int v115, .int v112] (mjTo Z) _
              refine pG_prim (v := .int (mjMin v112 v115)) (fun _ _ => rfl) (by decide) rfl ?_
              refine pG_many 5 (pc1 := 53) (L1 := [some (.ref a0), some (.ref p0), some (.int p1), some (.int p2), some (.int (mjMax v106 v109)), some (.int (mjMin v112 v115))]) (st1 := [.int 0, .int ((mjMin v112 v115) - (mjMax v106 v109))]) (M1 := mjTo Z) (fun _ _ => rfl) ?_
              refine pG_prim (v := .int (mjMax ((mjMin v112 v115) - (mjMax v106 v109)) 0)) (fun _ _ => rfl) (by decide) rfl ?_
              simp only [Option.some.injEq] at h
              subst h
              exact pG_ret (r := some (.int (mjMax ((mjMin v112 v115) - (mjMax v106 v109)) 0))) rfl ⟨rfl, rfl⟩
    · rw [if_neg hc103] at h
      refine pG_cmf (t := 15) rfl rfl hc103 ?_
      refine pG_many 1 (pc1 := 14) (L1 := [some (.ref a0), some (.ref p0), some (.int p1), some (.int p2), none, none]) (st1 := [.int 0]) (M1 := mjTo Z) (fun _ _ => rfl) ?_
      simp only [Option.some.injEq] at h
      subst h
      exact pG_ret (r := some (.int 0)) rfl ⟨rfl, rfl⟩
