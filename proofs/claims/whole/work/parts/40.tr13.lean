def f282_fact (p0 : Int32) (p1 : Int32) (Z : mjZt) : Option Int32 :=
  mjBp (f270_isAct p0 Z) fun v102 =>
  if mjCmp .eq v102 0 = true then
    some ((-2000000))
  else
    mjBp (f195_isIn (Int32.toInt64 p1) 0 10 Z) fun v106 =>
    if mjCmp .eq v106 0 = true then
      some ((-2000000))
    else
      mjBp (f280_factOf p0 p1 Z) fun v110 =>
      some v110
set_option maxRecDepth 4000 in
theorem f282_fact_ok {p0 : Int32} {p1 : Int32} {Z : mjZt} {v9 : Int32} (h : f282_fact p0 p1 Z = some v9) : pG 282 0 (mjEnt [.ref 211, .int p0, .int p1] (mjML 282)) [] (mjTo Z) (fun r M1 => r = some (.int v9) ∧ M1 = mjTo Z) := by
  unfold f282_fact at h
  show pG 282 0 [some (.ref 211), some (.int p0), some (.int p1)] [] (mjTo Z) _
  refine pG_many 2 (pc1 := 2) (L1 := [some (.ref 211), some (.int p0), some (.int p1)]) (st1 := [.int p0, .ref 211]) (M1 := mjTo Z) rfl ?_
  cases hq101 : f270_isAct p0 Z with
  | none => rw [hq101] at h; cases h
  | some v102 =>
    rw [hq101, mjBp_some] at h
    refine pG_callV (k2 := 270) (As := [.ref 211, .int p0]) (rest := []) rfl rfl rfl rfl rfl (by rfl) (by decide) (f270_isAct_ok hq101) ?_
    rintro r9 M9 ⟨rfl, rfl⟩
    show pG 282 5 [some (.ref 211), some (.int p0), some (.int p1)] [.int v102] (mjTo Z) _
    by_cases hc104 : mjCmp .eq v102 0 = true
    · rw [if_pos hc104] at h
      refine pG_ift (t := 29) rfl rfl hc104 ?_
      refine pG_many 1 (pc1 := 32) (L1 := [some (.ref 211), some (.int p0), some (.int p1)]) (st1 := [.int ((-2000000))]) (M1 := mjTo Z) rfl ?_
      simp only [Option.some.injEq] at h
      subst h
      exact pG_ret (r := some (.int ((-2000000)))) rfl ⟨rfl, rfl⟩
    · rw [if_neg hc104] at h
      refine pG_iff (t := 29) rfl rfl hc104 ?_
      refine pG_many 4 (pc1 := 14) (L1 := [some (.ref 211), some (.int p0), some (.int p1)]) (st1 := [.long 10, .long 0, .long (Int32.toInt64 p1)]) (M1 := mjTo Z) rfl ?_
      cases hq105 : f195_isIn (Int32.toInt64 p1) 0 10 Z with
      | none => rw [hq105] at h; cases h
      | some v106 =>
        rw [hq105, mjBp_some] at h
        refine pG_call (k2 := 195) (As := [.long (Int32.toInt64 p1), .long 0, .long 10]) (rest := []) rfl (by decide) (f195_isIn_ok hq105) ?_
        rintro r9 M9 ⟨rfl, rfl⟩
        show pG 282 17 [some (.ref 211), some (.int p0), some (.int p1)] [.int v106] (mjTo Z) _
        by_cases hc108 : mjCmp .eq v106 0 = true
        · rw [if_pos hc108] at h
          refine pG_ift (t := 29) rfl rfl hc108 ?_
          refine pG_many 1 (pc1 := 32) (L1 := [some (.ref 211), some (.int p0), some (.int p1)]) (st1 := [.int ((-2000000))]) (M1 := mjTo Z) rfl ?_
          simp only [Option.some.injEq] at h
          subst h
          exact pG_ret (r := some (.int ((-2000000)))) rfl ⟨rfl, rfl⟩
        · rw [if_neg hc108] at h
          refine pG_iff (t := 29) rfl rfl hc108 ?_
          refine pG_many 3 (pc1 := 23) (L1 := [some (.ref 211), some (.int p0), some (.int p1)]) (st1 := [.int p1, .int p0, .ref 211]) (M1 := mjTo Z) rfl ?_
          cases hq109 : f280_factOf p0 p1 Z with
          | none => rw [hq109] at h; cases h
          | some v110 =>
            rw [hq109, mjBp_some] at h
            refine pG_callV (k2 := 280) (As := [.ref 211, .int p0, .int p1]) (rest := []) rfl rfl rfl rfl rfl (by rfl) (by decide) (f280_factOf_ok hq109) ?_
            rintro r9 M9 ⟨rfl, rfl⟩
            show pG 282 26 [some (.ref 211), some (.int p0), some (.int p1)] [.int v110] (mjTo Z) _
            refine pG_many 1 (pc1 := 32) (L1 := [some (.ref 211), some (.int p0), some (.int p1)]) (st1 := [.int v110]) (M1 := mjTo Z) rfl ?_
            simp only [Option.some.injEq] at h
            subst h
            exact pG_ret (r := some (.int v110)) rfl ⟨rfl, rfl⟩
def f283_ones_h4 : Nat → Int32 → Int64 → mjZt → Option Int32
  | 0, _, _, _ => none
  | n + 1, x2, x3, Z =>
    if mjCmp .eq (lg_cmp x3 0) 0 = true then
      some x2
    else
      f283_ones_h4 n (x2 + 1) (x3 &&& (x3 - 1)) Z
set_option maxRecDepth 4000 in
theorem f283_ones_h4_ok : ∀ (n : Nat) (x2 : Int32) (x3 : Int64) (d0 d1 d4 : Option Value) (Z : mjZt) (v9 : Int32), f283_ones_h4 n x2 x3 Z = some v9 → pG 283 4 [d0, d1, some (.int x2), some (.long x3), d4] [] (mjTo Z) (fun r M1 => r = some (.int v9) ∧ M1 = mjTo Z)
  | 0, x2, x3, d0, d1, d4, Z, v9, h => by rw [f283_ones_h4] at h; cases h
  | n + 1, x2, x3, d0, d1, d4, Z, v9, h => by
      rw [f283_ones_h4] at h
      refine pG_many 3 (pc1 := 7) (L1 := [d0, d1, some (.int x2), some (.long x3), d4]) (st1 := [.int (lg_cmp x3 0)]) (M1 := mjTo Z) rfl ?_
      by_cases hc101 : mjCmp .eq (lg_cmp x3 0) 0 = true
      · rw [if_pos hc101] at h
        refine pG_ift (t := 22) rfl rfl hc101 ?_
        refine pG_many 1 (pc1 := 23) (L1 := [d0, d1, some (.int x2), some (.long x3), d4]) (st1 := [.int x2]) (M1 := mjTo Z) rfl ?_
        simp only [Option.some.injEq] at h
        subst h
        exact pG_ret (r := some (.int x2)) rfl ⟨rfl, rfl⟩
      · rw [if_neg hc101] at h
        refine pG_iff (t := 22) rfl rfl hc101 ?_
        refine pG_many 8 (pc1 := 4) (L1 := [d0, (mjK1 d1), some (.int (x2 + 1)), some (.long (x3 &&& (x3 - 1))), none]) (st1 := []) (M1 := mjTo Z) rfl ?_
        exact f283_ones_h4_ok n (x2 + 1) (x3 &&& (x3 - 1)) d0 ((mjK1 d1)) none Z v9 h
def f283_ones (p0 : Int64) (Z : mjZt) : Option Int32 :=
  f283_ones_h4 mjF 0 p0 Z
set_option maxRecDepth 4000 in
theorem f283_ones_ok {p0 : Int64} {Z : mjZt} {v9 : Int32} (h : f283_ones p0 Z = some v9) : pG 283 0 (mjEnt [.long p0] (mjML 283)) [] (mjTo Z) (fun r M1 => r = some (.int v9) ∧ M1 = mjTo Z) := by
  unfold f283_ones at h
  show pG 283 0 [some (.long p0), none, none, none, none] [] (mjTo Z) _
  refine pG_many 4 (pc1 := 4) (L1 := [some (.long p0), none, some (.int 0), some (.long p0), none]) (st1 := []) (M1 := mjTo Z) rfl ?_
  exact f283_ones_h4_ok mjF 0 p0 (some (.long p0)) none none Z v9 h
def f284_size (p0 : Int32) (Z : mjZt) : Option Int32 :=
  if mjIn p0 800 = true then
  mjBp (f283_ones (Z.2.1 244 (mjIx p0)) Z) fun v103 =>
  mjBp (f283_ones (Z.2.1 245 (mjIx p0)) Z) fun v106 =>
  mjBp (f283_ones (Z.2.1 246 (mjIx p0)) Z) fun v109 =>
  some ((v103 + v106) + v109)
  else none
set_option maxRecDepth 4000 in
theorem f284_size_ok {p0 : Int32} {Z : mjZt} {v9 : Int32} (h : f284_size p0 Z = some v9) : pG 284 0 (mjEnt [.ref 211, .int p0] (mjML 284)) [] (mjTo Z) (fun r M1 => r = some (.int v9) ∧ M1 = mjTo Z) := by
  unfold f284_size at h
  show pG 284 0 [some (.ref 211), some (.int p0)] [] (mjTo Z) _
  refine pG_many 1 (pc1 := 1) (L1 := [some (.ref 211), some (.int p0)]) (st1 := [.ref 211]) (M1 := mjTo Z) rfl ?_
  refine pG_getR (ci := 12) (f := 62) (b := 244) rfl rfl rfl (by rfl) rfl ?_
  refine pG_many 1 (pc1 := 5) (L1 := [some (.ref 211), some (.int p0)]) (st1 := [.int p0, .ref 244]) (M1 := mjTo Z) rfl ?_
  have hk101 : mjIn p0 800 = true := by
    by_cases q9 : mjIn p0 800 = true
    · exact q9
    · rw [if_neg q9] at h; cases h
  rw [if_pos hk101] at h
  refine pG_lal rfl (by rfl) hk101 ?_
  cases hq102 : f283_ones (Z.2.1 244 (mjIx p0)) Z with
  | none => rw [hq102] at h; cases h
  | some v103 =>
    rw [hq102, mjBp_some] at h
    refine pG_call (k2 := 283) (As := [.long (Z.2.1 244 (mjIx p0))]) (rest := []) rfl (by decide) (f283_ones_ok hq102) ?_
    rintro r9 M9 ⟨rfl, rfl⟩
    show pG 284 9 [some (.ref 211), some (.int p0)] [.int v103] (mjTo Z) _
    refine pG_many 1 (pc1 := 10) (L1 := [some (.ref 211), some (.int p0)]) (st1 := [.ref 211, .int v103]) (M1 := mjTo Z) rfl ?_
    refine pG_getR (ci := 12) (f := 63) (b := 245) rfl rfl rfl (by rfl) rfl ?_
    refine pG_many 1 (pc1 := 14) (L1 := [some (.ref 211), some (.int p0)]) (st1 := [.int p0, .ref 245, .int v103]) (M1 := mjTo Z) rfl ?_
    refine pG_lal rfl (by rfl) hk101 ?_
    cases hq105 : f283_ones (Z.2.1 245 (mjIx p0)) Z with
    | none => rw [hq105] at h; cases h
    | some v106 =>
      rw [hq105, mjBp_some] at h
      refine pG_call (k2 := 283) (As := [.long (Z.2.1 245 (mjIx p0))]) (rest := [.int v103]) rfl (by decide) (f283_ones_ok hq105) ?_
      rintro r9 M9 ⟨rfl, rfl⟩
      show pG 284 18 [some (.ref 211), some (.int p0)] [.int v106, .int v103] (mjTo Z) _
      refine pG_many 2 (pc1 := 20) (L1 := [some (.ref 211), some (.int p0)]) (st1 := [.ref 211, .int (v103 + v106)]) (M1 := mjTo Z) rfl ?_
      refine pG_getR (ci := 12) (f := 64) (b := 246) rfl rfl rfl (by rfl) rfl ?_
      refine pG_many 1 (pc1 := 24) (L1 := [some (.ref 211), some (.int p0)]) (st1 := [.int p0, .ref 246, .int (v103 + v106)]) (M1 := mjTo Z) rfl ?_
      refine pG_lal rfl (by rfl) hk101 ?_
      cases hq108 : f283_ones (Z.2.1 246 (mjIx p0)) Z with
      | none => rw [hq108] at h; cases h
      | some v109 =>
        rw [hq108, mjBp_some] at h
        refine pG_call (k2 := 283) (As := [.long (Z.2.1 246 (mjIx p0))]) (rest := [.int (v103 + v106)]) rfl (by decide) (f283_ones_ok hq108) ?_
        rintro r9 M9 ⟨rfl, rfl⟩
        show pG 284 28 [some (.ref 211), some (.int p0)] [.int v109, .int (v103 + v106)] (mjTo Z) _
        refine pG_many 1 (pc1 := 29) (L1 := [some (.ref 211), some (.int p0)]) (st1 := [.int ((v103 + v106) + v109)]) (M1 := mjTo Z) rfl ?_
        simp only [Option.some.injEq] at h
        subst h
        exact pG_ret (r := some (.int ((v103 + v106) + v109))) rfl ⟨rfl, rfl⟩
def f285_kept (p0 : Int64) (Z : mjZt) : Option (Int64 × mjZt) :=
  if mjCmp .lt (lg_cmp p0 ((-2147483648))) 0 = true then
    mjLet (zSi Z 211 67 1) fun Z102 =>
    some (0, Z102)
  else
    if mjCmp .gt (lg_cmp p0 2147483647) 0 = true then
      mjLet (zSi Z 211 67 1) fun Z104 =>
      some (0, Z104)
    else
      some (p0, Z)
set_option maxRecDepth 4000 in
theorem f285_kept_ok {p0 : Int64} {Z : mjZt} {v9 : Int64} {Z9 : mjZt} (h : f285_kept p0 Z = some (v9, Z9)) : pG 285 0 (mjEnt [.ref 211, .long p0] (mjML 285)) [] (mjTo Z) (fun r M1 => r = some (.long v9) ∧ M1 = mjTo Z9) := by
  unfold f285_kept at h
  show pG 285 0 [some (.ref 211), some (.long p0), none] [] (mjTo Z) _
  refine pG_many 3 (pc1 := 5) (L1 := [some (.ref 211), some (.long p0), none]) (st1 := [.int (lg_cmp p0 ((-2147483648)))]) (M1 := mjTo Z) rfl ?_
  by_cases hc101 : mjCmp .lt (lg_cmp p0 ((-2147483648))) 0 = true
  · rw [if_pos hc101] at h
    refine pG_ift (t := 18) rfl rfl hc101 ?_
    refine pG_many 2 (pc1 := 20) (L1 := [some (.ref 211), some (.long p0), none]) (st1 := [.int 1, .ref 211]) (M1 := mjTo Z) rfl ?_
    refine pG_putZ (ci := 12) (f := 67) rfl rfl rfl rfl (by rfl) (Or.inr rfl) ?_
    rw [mjLet] at h
    generalize zSi Z 211 67 1 = Z102 at h ⊢
    refine pG_many 1 (pc1 := 24) (L1 := [some (.ref 211), some (.long p0), none]) (st1 := [.long 0]) (M1 := mjTo Z102) rfl ?_
    simp only [Option.some.injEq, Prod.mk.injEq] at h
    obtain ⟨rfl, rfl⟩ := h
    exact pG_ret (r := some (.long 0)) rfl ⟨rfl, rfl⟩
  · rw [if_neg hc101] at h
    refine pG_iff (t := 18) rfl rfl hc101 ?_
    refine pG_many 3 (pc1 := 13) (L1 := [some (.ref 211), some (.long p0), none]) (st1 := [.int (lg_cmp p0 2147483647)]) (M1 := mjTo Z) rfl ?_
    by_cases hc103 : mjCmp .gt (lg_cmp p0 2147483647) 0 = true
    · rw [if_pos hc103] at h
      refine pG_ift (t := 18) rfl rfl hc103 ?_
      refine pG_many 2 (pc1 := 20) (L1 := [some (.ref 211), some (.long p0), none]) (st1 := [.int 1, .ref 211]) (M1 := mjTo Z) rfl ?_
      refine pG_putZ (ci := 12) (f := 67) rfl rfl rfl rfl (by rfl) (Or.inr rfl) ?_
      rw [mjLet] at h
      generalize zSi Z 211 67 1 = Z104 at h ⊢
      refine pG_many 1 (pc1 := 24) (L1 := [some (.ref 211), some (.long p0), none]) (st1 := [.long 0]) (M1 := mjTo Z104) rfl ?_
      simp only [Option.some.injEq, Prod.mk.injEq] at h
      obtain ⟨rfl, rfl⟩ := h
      exact pG_ret (r := some (.long 0)) rfl ⟨rfl, rfl⟩
    · rw [if_neg hc103] at h
      refine pG_iff (t := 18) rfl rfl hc103 ?_
      refine pG_many 1 (pc1 := 17) (L1 := [some (.ref 211), some (.long p0), none]) (st1 := [.long p0]) (M1 := mjTo Z) rfl ?_
      simp only [Option.some.injEq, Prod.mk.injEq] at h
      obtain ⟨rfl, rfl⟩ := h
      exact pG_ret (r := some (.long p0)) rfl ⟨rfl, rfl⟩
def f286_compares_j179 (s1 : Int32) (s2 : Int64) (Z : mjZt) : Option (Unit × mjZt) :=
  if mjIn s1 800 = true then
  mjLet (zSl Z 245 (mjIx s1) s2) fun Z116 =>
  if mjCmp .lt (Z116.1 211 66) 120 = true then
    if mjIn ((Z116.1 211 65) - 1) 800 = true then
    mjLet (zSl Z116 246 (mjIx ((Z116.1 211 65) - 1)) 0) fun Z119 =>
    mjLet (zSi Z119 211 66 ((Z119.1 211 66) + 1)) fun Z120 =>
    some ((), Z120)
    else none
  else
    if mjIn ((Z116.1 211 65) - 1) 800 = true then
    mjLet (zSl Z116 246 (mjIx ((Z116.1 211 65) - 1)) (1 <<< (Int32.toInt64 ((Z116.1 211 66) - 120) &&& 63))) fun Z122 =>
    mjLet (zSi Z122 211 66 ((Z122.1 211 66) + 1)) fun Z123 =>
    some ((), Z123)
    else none
  else none
set_option maxRecDepth 4000 in
theorem f286_compares_j179_ok (s1 : Int32) (s2 : Int64) (d1 d2 d3 d4 d5 d6 : Option Value) (Z : mjZt) (v9 : Unit) (Z9 : mjZt) (h : f286_compares_j179 s1 s2 Z = some (v9, Z9)) : pG 286 179 [some (.ref 211), d1, d2, d3, d4, d5, d6] [.long s2, .int s1, .ref 245] (mjTo Z) (fun r M1 => r = none ∧ M1 = mjTo Z9) := by
  unfold f286_compares_j179 at h
  have hk115 : mjIn s1 800 = true := by
    by_cases q9 : mjIn s1 800 = true
    · exact q9
    · rw [if_neg q9] at h; cases h
  rw [if_pos hk115] at h
  refine pG_las rfl (by rfl) hk115 (?_ : pG 286 180 [some (.ref 211), d1, d2, d3, d4, d5, d6] [] (mjTo (zSl Z 245 (mjIx s1) s2)) _)
  rw [mjLet] at h
  generalize zSl Z 245 (mjIx s1) s2 = Z116 at h ⊢
  refine pG_many 1 (pc1 := 181) (L1 := [some (.ref 211), d1, d2, d3, d4, d5, d6]) (st1 := [.ref 211]) (M1 := mjTo Z116) rfl ?_
  refine pG_getR (ci := 12) (f := 64) (b := 246) rfl rfl rfl (by rfl) rfl ?_
  refine pG_many 1 (pc1 := 185) (L1 := [some (.ref 211), d1, d2, d3, d4, d5, d6]) (st1 := [.ref 211, .ref 246]) (M1 := mjTo Z116) rfl ?_
  refine pG_getI (ci := 12) (f := 65) rfl rfl (Or.inl rfl) (by rfl) ?_
  refine pG_many 3 (pc1 := 191) (L1 := [some (.ref 211), d1, d2, d3, d4, d5, d6]) (st1 := [.ref 211, .int ((Z116.1 211 65) - 1), .ref 246]) (M1 := mjTo Z116) rfl ?_
  refine pG_getI (ci := 12) (f := 66) rfl rfl (Or.inl rfl) (by rfl) ?_
  refine pG_many 1 (pc1 := 196) (L1 := [some (.ref 211), d1, d2, d3, d4, d5, d6]) (st1 := [.int 120, .int (Z116.1 211 66), .int ((Z116.1 211 65) - 1), .ref 246]) (M1 := mjTo Z116) rfl ?_
  by_cases hc117 : mjCmp .lt (Z116.1 211 66) 120 = true
  · rw [if_pos hc117] at h
    refine pG_cmt (t := 211) rfl rfl hc117 ?_
    refine pG_many 1 (pc1 := 212) (L1 := [some (.ref 211), d1, d2, d3, d4, d5, d6]) (st1 := [.long 0, .int ((Z116.1 211 65) - 1), .ref 246]) (M1 := mjTo Z116) rfl ?_
    have hk118 : mjIn ((Z116.1 211 65) - 1) 800 = true := by
      by_cases q9 : mjIn ((Z116.1 211 65) - 1) 800 = true
      · exact q9
      · rw [if_neg q9] at h; cases h
    rw [if_pos hk118] at h
    refine pG_las rfl (by rfl) hk118 (?_ : pG 286 213 [some (.ref 211), d1, d2, d3, d4, d5, d6] [] (mjTo (zSl Z116 246 (mjIx ((Z116.1 211 65) - 1)) 0)) _)
    rw [mjLet] at h
    generalize zSl Z116 246 (mjIx ((Z116.1 211 65) - 1)) 0 = Z119 at h ⊢
    refine pG_many 2 (pc1 := 215) (L1 := [some (.ref 211), d1, d2, d3, d4, d5, d6]) (st1 := [.ref 211, .ref 211]) (M1 := mjTo Z119) rfl ?_
    refine pG_getI (ci := 12) (f := 66) rfl rfl (Or.inl rfl) (by rfl) ?_
    refine pG_many 2 (pc1 := 220) (L1 := [some (.ref 211), d1, d2, d3, d4, d5, d6]) (st1 := [.int ((Z119.1 211 66) + 1), .ref 211]) (M1 := mjTo Z119) rfl ?_
    refine pG_putI (ci := 12) (f := 66) rfl rfl rfl rfl (by rfl) ?_
    rw [mjLet] at h
    generalize zSi Z119 211 66 ((Z119.1 211 66) + 1) = Z120 at h ⊢
    simp only [Option.some.injEq, Prod.mk.injEq] at h
    obtain ⟨-, rfl⟩ := h
    exact pG_ret (r := none) rfl ⟨rfl, rfl⟩
  · rw [if_neg hc117] at h
    refine pG_cmf (t := 211) rfl rfl hc117 ?_
    refine pG_many 2 (pc1 := 201) (L1 := [some (.ref 211), d1, d2, d3, d4, d5, d6]) (st1 := [.ref 211, .long 1, .int ((Z116.1 211 65) - 1), .ref 246]) (M1 := mjTo Z116) rfl ?_
    refine pG_getI (ci := 12) (f := 66) rfl rfl (Or.inl rfl) (by rfl) ?_
    refine pG_many 4 (pc1 := 212) (L1 := [some (.ref 211), d1, d2, d3, d4, d5, d6]) (st1 := [.long (1 <<< (Int32.toInt64 ((Z116.1 211 66) - 120) &&& 63)), .int ((Z116.1 211 65) - 1), .ref 246]) (M1 := mjTo Z116) rfl ?_
    have hk121 : mjIn ((Z116.1 211 65) - 1) 800 = true := by
      by_cases q9 : mjIn ((Z116.1 211 65) - 1) 800 = true
      · exact q9
      · rw [if_neg q9] at h; cases h
    rw [if_pos hk121] at h
    refine pG_las rfl (by rfl) hk121 (?_ : pG 286 213 [some (.ref 211), d1, d2, d3, d4, d5, d6] [] (mjTo (zSl Z116 246 (mjIx ((Z116.1 211 65) - 1)) (1 <<< (Int32.toInt64 ((Z116.1 211 66) - 120) &&& 63)))) _)
    rw [mjLet] at h
    generalize zSl Z116 246 (mjIx ((Z116.1 211 65) - 1)) (1 <<< (Int32.toInt64 ((Z116.1 211 66) - 120) &&& 63)) = Z122 at h ⊢
    refine pG_many 2 (pc1 := 215) (L1 := [some (.ref 211), d1, d2, d3, d4, d5, d6]) (st1 := [.ref 211, .ref 211]) (M1 := mjTo Z122) rfl ?_
    refine pG_getI (ci := 12) (f := 66) rfl rfl (Or.inl rfl) (by rfl) ?_
    refine pG_many 2 (pc1 := 220) (L1 := [some (.ref 211), d1, d2, d3, d4, d5, d6]) (st1 := [.int ((Z122.1 211 66) + 1), .ref 211]) (M1 := mjTo Z122) rfl ?_
    refine pG_putI (ci := 12) (f := 66) rfl rfl rfl rfl (by rfl) ?_
    rw [mjLet] at h
    generalize zSi Z122 211 66 ((Z122.1 211 66) + 1) = Z123 at h ⊢
    simp only [Option.some.injEq, Prod.mk.injEq] at h
    obtain ⟨-, rfl⟩ := h
    exact pG_ret (r := none) rfl ⟨rfl, rfl⟩
def f286_compares_j178 (s1 : Int32) (Z : mjZt) : Option (Unit × mjZt) :=
  f286_compares_j179 s1 0 Z
set_option maxRecDepth 4000 in
theorem f286_compares_j178_ok (s1 : Int32) (d1 d2 d3 d4 d5 d6 : Option Value) (Z : mjZt) (v9 : Unit) (Z9 : mjZt) (h : f286_compares_j178 s1 Z = some (v9, Z9)) : pG 286 178 [some (.ref 211), d1, d2, d3, d4, d5, d6] [.int s1, .ref 245] (mjTo Z) (fun r M1 => r = none ∧ M1 = mjTo Z9) := by
  unfold f286_compares_j178 at h
  refine pG_many 1 (pc1 := 179) (L1 := [some (.ref 211), d1, d2, d3, d4, d5, d6]) (st1 := [.long 0, .int s1, .ref 245]) (M1 := mjTo Z) rfl ?_
  exact f286_compares_j179_ok s1 0 d1 d2 d3 d4 d5 d6 Z v9 Z9 h
def f286_compares_j137 (s1 : Int32) (s2 : Int64) (Z : mjZt) : Option (Unit × mjZt) :=
  if mjIn s1 800 = true then
  mjLet (zSl Z 244 (mjIx s1) s2) fun Z113 =>
  if mjCmp .lt (Z113.1 211 66) 60 = true then
    f286_compares_j178 ((Z113.1 211 65) - 1) Z113
  else
    if mjCmp .ge (Z113.1 211 66) 120 = true then
      f286_compares_j178 ((Z113.1 211 65) - 1) Z113
    else
      f286_compares_j179 ((Z113.1 211 65) - 1) (1 <<< (Int32.toInt64 ((Z113.1 211 66) - 60) &&& 63)) Z113
  else none
set_option maxRecDepth 4000 in
theorem f286_compares_j137_ok (s1 : Int32) (s2 : Int64) (d1 d2 d3 d4 d5 d6 : Option Value) (Z : mjZt) (v9 : Unit) (Z9 : mjZt) (h : f286_compares_j137 s1 s2 Z = some (v9, Z9)) : pG 286 137 [some (.ref 211), d1, d2, d3, d4, d5, d6] [.long s2, .int s1, .ref 244] (mjTo Z) (fun r M1 => r = none ∧ M1 = mjTo Z9) := by
  unfold f286_compares_j137 at h
  have hk112 : mjIn s1 800 = true := by
    by_cases q9 : mjIn s1 800 = true
    · exact q9
    · rw [if_neg q9] at h; cases h
  rw [if_pos hk112] at h
  refine pG_las rfl (by rfl) hk112 (?_ : pG 286 138 [some (.ref 211), d1, d2, d3, d4, d5, d6] [] (mjTo (zSl Z 244 (mjIx s1) s2)) _)
  rw [mjLet] at h
  generalize zSl Z 244 (mjIx s1) s2 = Z113 at h ⊢
  refine pG_many 1 (pc1 := 139) (L1 := [some (.ref 211), d1, d2, d3, d4, d5, d6]) (st1 := [.ref 211]) (M1 := mjTo Z113) rfl ?_
  refine pG_getR (ci := 12) (f := 63) (b := 245) rfl rfl rfl (by rfl) rfl ?_
  refine pG_many 1 (pc1 := 143) (L1 := [some (.ref 211), d1, d2, d3, d4, d5, d6]) (st1 := [.ref 211, .ref 245]) (M1 := mjTo Z113) rfl ?_
  refine pG_getI (ci := 12) (f := 65) rfl rfl (Or.inl rfl) (by rfl) ?_
  refine pG_many 3 (pc1 := 149) (L1 := [some (.ref 211), d1, d2, d3, d4, d5, d6]) (st1 := [.ref 211, .int ((Z113.1 211 65) - 1), .ref 245]) (M1 := mjTo Z113) rfl ?_
  refine pG_getI (ci := 12) (f := 66) rfl rfl (Or.inl rfl) (by rfl) ?_
  refine pG_many 1 (pc1 := 154) (L1 := [some (.ref 211), d1, d2, d3, d4, d5, d6]) (st1 := [.int 60, .int (Z113.1 211 66), .int ((Z113.1 211 65) - 1), .ref 245]) (M1 := mjTo Z113) rfl ?_
  by_cases hc114 : mjCmp .lt (Z113.1 211 66) 60 = true
  · rw [if_pos hc114] at h
    refine pG_cmt (t := 178) rfl rfl hc114 ?_
    exact f286_compares_j178_ok ((Z113.1 211 65) - 1) d1 d2 d3 d4 d5 d6 Z113 v9 Z9 h
  · rw [if_neg hc114] at h
    refine pG_cmf (t := 178) rfl rfl hc114 ?_
    refine pG_many 1 (pc1 := 158) (L1 := [some (.ref 211), d1, d2, d3, d4, d5, d6]) (st1 := [.ref 211, .int ((Z113.1 211 65) - 1), .ref 245]) (M1 := mjTo Z113) rfl ?_
    refine pG_getI (ci := 12) (f := 66) rfl rfl (Or.inl rfl) (by rfl) ?_
    refine pG_many 1 (pc1 := 163) (L1 := [some (.ref 211), d1, d2, d3, d4, d5, d6]) (st1 := [.int 120, .int (Z113.1 211 66), .int ((Z113.1 211 65) - 1), .ref 245]) (M1 := mjTo Z113) rfl ?_
    by_cases hc124 : mjCmp .ge (Z113.1 211 66) 120 = true
    · rw [if_pos hc124] at h
      refine pG_cmt (t := 178) rfl rfl hc124 ?_
      exact f286_compares_j178_ok ((Z113.1 211 65) - 1) d1 d2 d3 d4 d5 d6 Z113 v9 Z9 h
    · rw [if_neg hc124] at h
      refine pG_cmf (t := 178) rfl rfl hc124 ?_
      refine pG_many 2 (pc1 := 168) (L1 := [some (.ref 211), d1, d2, d3, d4, d5, d6]) (st1 := [.ref 211, .long 1, .int ((Z113.1 211 65) - 1), .ref 245]) (M1 := mjTo Z113) rfl ?_
      refine pG_getI (ci := 12) (f := 66) rfl rfl (Or.inl rfl) (by rfl) ?_
      refine pG_many 4 (pc1 := 179) (L1 := [some (.ref 211), d1, d2, d3, d4, d5, d6]) (st1 := [.long (1 <<< (Int32.toInt64 ((Z113.1 211 66) - 60) &&& 63)), .int ((Z113.1 211 65) - 1), .ref 245]) (M1 := mjTo Z113) rfl ?_
      exact f286_compares_j179_ok ((Z113.1 211 65) - 1) (1 <<< (Int32.toInt64 ((Z113.1 211 66) - 60) &&& 63)) d1 d2 d3 d4 d5 d6 Z113 v9 Z9 h
def f286_compares_j84 (s0 : Int32) (Z : mjZt) : Option (Unit × mjZt) :=
  mjLet (zSi Z 211 67 0) fun Z105 =>
  mjBp (f196_truth s0 Z105) fun v107 =>
  if mjIn ((Z105.1 211 65) - 1) 800 = true then
  mjLet (zSl Z105 243 (mjIx ((Z105.1 211 65) - 1)) (Int32.toInt64 v107)) fun Z110 =>
  if mjCmp .ge (Z110.1 211 66) 60 = true then
    f286_compares_j137 ((Z110.1 211 65) - 1) 0 Z110
  else
    f286_compares_j137 ((Z110.1 211 65) - 1) (1 <<< (Int32.toInt64 (Z110.1 211 66) &&& 63)) Z110
  else none
set_option maxRecDepth 4000 in
theorem f286_compares_j84_ok (s0 : Int32) (d1 d2 d3 d4 d5 d6 : Option Value) (Z : mjZt) (v9 : Unit) (Z9 : mjZt) (h : f286_compares_j84 s0 Z = some (v9, Z9)) : pG 286 84 [some (.ref 211), d1, d2, d3, d4, d5, d6] [.int s0] (mjTo Z) (fun r M1 => r = none ∧ M1 = mjTo Z9) := by
  unfold f286_compares_j84 at h
  refine pG_many 3 (pc1 := 88) (L1 := [some (.ref 211), d1, d2, d3, d4, (mjK1 d5), some (.int s0)]) (st1 := [.int 0, .ref 211]) (M1 := mjTo Z) rfl ?_
  refine pG_putZ (ci := 12) (f := 67) rfl rfl rfl rfl (by rfl) (Or.inl rfl) ?_
  rw [mjLet] at h
  generalize zSi Z 211 67 0 = Z105 at h ⊢
  refine pG_many 1 (pc1 := 92) (L1 := [some (.ref 211), d1, d2, d3, d4, (mjK1 d5), some (.int s0)]) (st1 := [.ref 211]) (M1 := mjTo Z105) rfl ?_
  refine pG_getR (ci := 12) (f := 61) (b := 243) rfl rfl rfl (by rfl) rfl ?_
  refine pG_many 1 (pc1 := 96) (L1 := [some (.ref 211), d1, d2, d3, d4, (mjK1 d5), some (.int s0)]) (st1 := [.ref 211, .ref 243]) (M1 := mjTo Z105) rfl ?_
  refine pG_getI (ci := 12) (f := 65) rfl rfl (Or.inl rfl) (by rfl) ?_
  refine pG_many 3 (pc1 := 103) (L1 := [some (.ref 211), d1, d2, d3, d4, (mjK1 d5), some (.int s0)]) (st1 := [.int s0, .int ((Z105.1 211 65) - 1), .ref 243]) (M1 := mjTo Z105) rfl ?_
  cases hq106 : f196_truth s0 Z105 with
  | none => rw [hq106] at h; cases h
  | some v107 =>
    rw [hq106, mjBp_some] at h
    refine pG_call (k2 := 196) (As := [.int s0]) (rest := [.int ((Z105.1 211 65) - 1), .ref 243]) rfl (by decide) (f196_truth_ok hq106) ?_
    rintro r9 M9 ⟨rfl, rfl⟩
    show pG 286 106 [some (.ref 211), d1, d2, d3, d4, (mjK1 d5), some (.int s0)] [.int v107, .int ((Z105.1 211 65) - 1), .ref 243] (mjTo Z105) _
    refine pG_many 1 (pc1 := 107) (L1 := [some (.ref 211), d1, d2, d3, d4, (mjK1 d5), some (.int s0)]) (st1 := [.long (Int32.toInt64 v107), .int ((Z105.1 211 65) - 1), .ref 243]) (M1 := mjTo Z105) rfl ?_
    have hk109 : mjIn ((Z105.1 211 65) - 1) 800 = true := by
      by_cases q9 : mjIn ((Z105.1 211 65) - 1) 800 = true
      · exact q9
      · rw [if_neg q9] at h; cases h
    rw [if_pos hk109] at h
    refine pG_las rfl (by rfl) hk109 (?_ : pG 286 108 [some (.ref 211), d1, d2, d3, d4, (mjK1 d5), some (.int s0)] [] (mjTo (zSl Z105 243 (mjIx ((Z105.1 211 65) - 1)) (Int32.toInt64 v107))) _)
    rw [mjLet] at h
    generalize zSl Z105 243 (mjIx ((Z105.1 211 65) - 1)) (Int32.toInt64 v107) = Z110 at h ⊢
    refine pG_many 1 (pc1 := 109) (L1 := [some (.ref 211), d1, d2, d3, d4, (mjK1 d5), some (.int s0)]) (st1 := [.ref 211]) (M1 := mjTo Z110) rfl ?_
    refine pG_getR (ci := 12) (f := 62) (b := 244) rfl rfl rfl (by rfl) rfl ?_
    refine pG_many 1 (pc1 := 113) (L1 := [some (.ref 211), d1, d2, d3, d4, (mjK1 d5), some (.int s0)]) (st1 := [.ref 211, .ref 244]) (M1 := mjTo Z110) rfl ?_
    refine pG_getI (ci := 12) (f := 65) rfl rfl (Or.inl rfl) (by rfl) ?_
    refine pG_many 3 (pc1 := 119) (L1 := [some (.ref 211), d1, d2, d3, d4, (mjK1 d5), some (.int s0)]) (st1 := [.ref 211, .int ((Z110.1 211 65) - 1), .ref 244]) (M1 := mjTo Z110) rfl ?_
    refine pG_getI (ci := 12) (f := 66) rfl rfl (Or.inl rfl) (by rfl) ?_
    refine pG_many 1 (pc1 := 124) (L1 := [some (.ref 211), d1, d2, d3, d4, (mjK1 d5), some (.int s0)]) (st1 := [.int 60, .int (Z110.1 211 66), .int ((Z110.1 211 65) - 1), .ref 244]) (M1 := mjTo Z110) rfl ?_
    by_cases hc111 : mjCmp .ge (Z110.1 211 66) 60 = true
    · rw [if_pos hc111] at h
      refine pG_cmt (t := 136) rfl rfl hc111 ?_
      refine pG_many 1 (pc1 := 137) (L1 := [some (.ref 211), d1, d2, d3, d4, (mjK1 d5), some (.int s0)]) (st1 := [.long 0, .int ((Z110.1 211 65) - 1), .ref 244]) (M1 := mjTo Z110) rfl ?_
      exact f286_compares_j137_ok ((Z110.1 211 65) - 1) 0 d1 d2 d3 d4 ((mjK1 d5)) (some (.int s0)) Z110 v9 Z9 h
    · rw [if_neg hc111] at h
      refine pG_cmf (t := 136) rfl rfl hc111 ?_
      refine pG_many 2 (pc1 := 129) (L1 := [some (.ref 211), d1, d2, d3, d4, (mjK1 d5), some (.int s0)]) (st1 := [.ref 211, .long 1, .int ((Z110.1 211 65) - 1), .ref 244]) (M1 := mjTo Z110) rfl ?_
      refine pG_getI (ci := 12) (f := 66) rfl rfl (Or.inl rfl) (by rfl) ?_
      refine pG_many 2 (pc1 := 137) (L1 := [some (.ref 211), d1, d2, d3, d4, (mjK1 d5), some (.int s0)]) (st1 := [.long (1 <<< (Int32.toInt64 (Z110.1 211 66) &&& 63)), .int ((Z110.1 211 65) - 1), .ref 244]) (M1 := mjTo Z110) rfl ?_
      exact f286_compares_j137_ok ((Z110.1 211 65) - 1) (1 <<< (Int32.toInt64 (Z110.1 211 66) &&& 63)) d1 d2 d3 d4 ((mjK1 d5)) (some (.int s0)) Z110 v9 Z9 h
def f286_compares_j83  (Z : mjZt) : Option (Unit × mjZt) :=
  f286_compares_j84 0 Z
set_option maxRecDepth 4000 in
theorem f286_compares_j83_ok  (d1 d2 d3 d4 d5 d6 : Option Value) (Z : mjZt) (v9 : Unit) (Z9 : mjZt) (h : f286_compares_j83  Z = some (v9, Z9)) : pG 286 83 [some (.ref 211), d1, d2, d3, d4, d5, d6] [] (mjTo Z) (fun r M1 => r = none ∧ M1 = mjTo Z9) := by
  unfold f286_compares_j83 at h
  refine pG_many 1 (pc1 := 84) (L1 := [some (.ref 211), d1, d2, d3, d4, d5, d6]) (st1 := [.int 0]) (M1 := mjTo Z) rfl ?_
  exact f286_compares_j84_ok 0 d1 d2 d3 d4 d5 d6 Z v9 Z9 h
def f286_compares_j79  (Z : mjZt) : Option (Unit × mjZt) :=
  f286_compares_j84 1 Z
set_option maxRecDepth 4000 in
theorem f286_compares_j79_ok  (d1 d2 d3 d4 d5 d6 : Option Value) (Z : mjZt) (v9 : Unit) (Z9 : mjZt) (h : f286_compares_j79  Z = some (v9, Z9)) : pG 286 79 [some (.ref 211), d1, d2, d3, d4, d5, d6] [] (mjTo Z) (fun r M1 => r = none ∧ M1 = mjTo Z9) := by
  unfold f286_compares_j79 at h
  refine pG_many 2 (pc1 := 84) (L1 := [some (.ref 211), d1, d2, d3, d4, d5, d6]) (st1 := [.int 1]) (M1 := mjTo Z) rfl ?_
  exact f286_compares_j84_ok 1 d1 d2 d3 d4 d5 d6 Z v9 Z9 h
def f286_compares (p0 : Int32) (Z : mjZt) : Option (Unit × mjZt) :=
  mjLet (zSi Z 211 65 ((Z.1 211 65) - 1)) fun Z101 =>
  if mjIn ((Z101.1 211 65) - 1) 800 = true then
  if mjIn (Z101.1 211 65) 800 = true then
  if mjCmp .ne (Z101.1 211 67) 0 = true then
    f286_compares_j83  Z101
  else
    if mjCmp .ne p0 30 = true then
      if mjCmp .ne p0 31 = true then
        if mjCmp .ne (lg_cmp (Z101.2.1 243 (mjIx ((Z101.1 211 65) - 1))) (Z101.2.1 243 (mjIx (Z101.1 211 65)))) 0 = true then
          f286_compares_j83  Z101
        else
          f286_compares_j79  Z101
      else
        if mjCmp .le (lg_cmp (Z101.2.1 243 (mjIx ((Z101.1 211 65) - 1))) (Z101.2.1 243 (mjIx (Z101.1 211 65)))) 0 = true then
          f286_compares_j83  Z101
        else
          f286_compares_j79  Z101
    else
      if mjCmp .ge (lg_cmp (Z101.2.1 243 (mjIx ((Z101.1 211 65) - 1))) (Z101.2.1 243 (mjIx (Z101.1 211 65)))) 0 = true then
        f286_compares_j83  Z101
      else
        f286_compares_j79  Z101
  else none
  else none
set_option maxRecDepth 4000 in
theorem f286_compares_ok {p0 : Int32} {Z : mjZt} {v9 : Unit} {Z9 : mjZt} (h : f286_compares p0 Z = some (v9, Z9)) : pG 286 0 (mjEnt [.ref 211, .int p0] (mjML 286)) [] (mjTo Z) (fun r M1 => r = none ∧ M1 = mjTo Z9) := by
  unfold f286_compares at h
  show pG 286 0 [some (.ref 211), some (.int p0), none, none, none, none, none] [] (mjTo Z) _
  refine pG_many 2 (pc1 := 2) (L1 := [some (.ref 211), some (.int p0), none, none, none, none, none]) (st1 := [.ref 211, .ref 211]) (M1 := mjTo Z) rfl ?_
  refine pG_getI (ci := 12) (f := 65) rfl rfl (Or.inl rfl) (by rfl) ?_
  refine pG_many 2 (pc1 := 7) (L1 := [some (.ref 211), some (.int p0), none, none, none, none, none]) (st1 := [.int ((Z.1 211 65) - 1), .ref 211]) (M1 := mjTo Z) rfl ?_
  refine pG_putI (ci := 12) (f := 65) rfl rfl rfl rfl (by rfl) ?_
  rw [mjLet] at h
  generalize zSi Z 211 65 ((Z.1 211 65) - 1) = Z101 at h ⊢
  refine pG_many 1 (pc1 := 11) (L1 := [some (.ref 211), some (.int p0), none, none, none, none, none]) (st1 := [.ref 211]) (M1 := mjTo Z101) rfl ?_
  refine pG_getR (ci := 12) (f := 61) (b := 243) rfl rfl rfl (by rfl) rfl ?_
  refine pG_many 1 (pc1 := 15) (L1 := [some (.ref 211), some (.int p0), none, none, none, none, none]) (st1 := [.ref 211, .ref 243]) (M1 := mjTo Z101) rfl ?_
  refine pG_getI (ci := 12) (f := 65) rfl rfl (Or.inl rfl) (by rfl) ?_
  refine pG_many 2 (pc1 := 20) (L1 := [some (.ref 211), some (.int p0), none, none, none, none, none]) (st1 := [.int ((Z101.1 211 65) - 1), .ref 243]) (M1 := mjTo Z101) rfl ?_
  have hk102 : mjIn ((Z101.1 211 65) - 1) 800 = true := by
    by_cases q9 : mjIn ((Z101.1 211 65) - 1) 800 = true
    · exact q9
    · rw [if_neg q9] at h; cases h
  rw [if_pos hk102] at h
  refine pG_lal rfl (by rfl) hk102 ?_
  refine pG_many 2 (pc1 := 23) (L1 := [some (.ref 211), some (.int p0), some (.long (Z101.2.1 243 (mjIx ((Z101.1 211 65) - 1)))), none, none, none, none]) (st1 := [.ref 211]) (M1 := mjTo Z101) rfl ?_
  refine pG_getR (ci := 12) (f := 61) (b := 243) rfl rfl rfl (by rfl) rfl ?_
  refine pG_many 1 (pc1 := 27) (L1 := [some (.ref 211), some (.int p0), some (.long (Z101.2.1 243 (mjIx ((Z101.1 211 65) - 1)))), none, none, none, none]) (st1 := [.ref 211, .ref 243]) (M1 := mjTo Z101) rfl ?_
  refine pG_getI (ci := 12) (f := 65) rfl rfl (Or.inl rfl) (by rfl) ?_
  have hk103 : mjIn (Z101.1 211 65) 800 = true := by
    by_cases q9 : mjIn (Z101.1 211 65) 800 = true
    · exact q9
    · rw [if_neg q9] at h; cases h
  rw [if_pos hk103] at h
  refine pG_lal rfl (by rfl) hk103 ?_
  refine pG_many 2 (pc1 := 34) (L1 := [some (.ref 211), some (.int p0), some (.long (Z101.2.1 243 (mjIx ((Z101.1 211 65) - 1)))), none, some (.long (Z101.2.1 243 (mjIx (Z101.1 211 65)))), none, none]) (st1 := [.ref 211]) (M1 := mjTo Z101) rfl ?_
  refine pG_getI (ci := 12) (f := 67) rfl rfl (Or.inr rfl) (by rfl) ?_
  by_cases hc104 : mjCmp .ne (Z101.1 211 67) 0 = true
  · rw [if_pos hc104] at h
    refine pG_ift (t := 83) rfl rfl hc104 ?_
    exact f286_compares_j83_ok (some (.int p0)) (some (.long (Z101.2.1 243 (mjIx ((Z101.1 211 65) - 1))))) none (some (.long (Z101.2.1 243 (mjIx (Z101.1 211 65))))) none none Z101 v9 Z9 h
  · rw [if_neg hc104] at h
    refine pG_iff (t := 83) rfl rfl hc104 ?_
    refine pG_many 2 (pc1 := 43) (L1 := [some (.ref 211), some (.int p0), some (.long (Z101.2.1 243 (mjIx ((Z101.1 211 65) - 1)))), none, some (.long (Z101.2.1 243 (mjIx (Z101.1 211 65)))), none, none]) (st1 := [.int 30, .int p0]) (M1 := mjTo Z101) rfl ?_
    by_cases hc125 : mjCmp .ne p0 30 = true
    · rw [if_pos hc125] at h
      refine pG_cmt (t := 56) rfl rfl hc125 ?_
      refine pG_many 2 (pc1 := 59) (L1 := [some (.ref 211), some (.int p0), some (.long (Z101.2.1 243 (mjIx ((Z101.1 211 65) - 1)))), none, some (.long (Z101.2.1 243 (mjIx (Z101.1 211 65)))), none, none]) (st1 := [.int 31, .int p0]) (M1 := mjTo Z101) rfl ?_
      by_cases hc126 : mjCmp .ne p0 31 = true
      · rw [if_pos hc126] at h
        refine pG_cmt (t := 72) rfl rfl hc126 ?_
        refine pG_many 3 (pc1 := 76) (L1 := [some (.ref 211), some (.int p0), some (.long (Z101.2.1 243 (mjIx ((Z101.1 211 65) - 1)))), none, some (.long (Z101.2.1 243 (mjIx (Z101.1 211 65)))), none, none]) (st1 := [.int (lg_cmp (Z101.2.1 243 (mjIx ((Z101.1 211 65) - 1))) (Z101.2.1 243 (mjIx (Z101.1 211 65))))]) (M1 := mjTo Z101) rfl ?_
        by_cases hc127 : mjCmp .ne (lg_cmp (Z101.2.1 243 (mjIx ((Z101.1 211 65) - 1))) (Z101.2.1 243 (mjIx (Z101.1 211 65)))) 0 = true
        · rw [if_pos hc127] at h
          refine pG_ift (t := 83) rfl rfl hc127 ?_
          exact f286_compares_j83_ok (some (.int p0)) (some (.long (Z101.2.1 243 (mjIx ((Z101.1 211 65) - 1))))) none (some (.long (Z101.2.1 243 (mjIx (Z101.1 211 65))))) none none Z101 v9 Z9 h
        · rw [if_neg hc127] at h
          refine pG_iff (t := 83) rfl rfl hc127 ?_
          exact f286_compares_j79_ok (some (.int p0)) (some (.long (Z101.2.1 243 (mjIx ((Z101.1 211 65) - 1))))) none (some (.long (Z101.2.1 243 (mjIx (Z101.1 211 65))))) none none Z101 v9 Z9 h
      · rw [if_neg hc126] at h
        refine pG_cmf (t := 72) rfl rfl hc126 ?_
        refine pG_many 3 (pc1 := 66) (L1 := [some (.ref 211), some (.int p0), some (.long (Z101.2.1 243 (mjIx ((Z101.1 211 65) - 1)))), none, some (.long (Z101.2.1 243 (mjIx (Z101.1 211 65)))), none, none]) (st1 := [.int (lg_cmp (Z101.2.1 243 (mjIx ((Z101.1 211 65) - 1))) (Z101.2.1 243 (mjIx (Z101.1 211 65))))]) (M1 := mjTo Z101) rfl ?_
        by_cases hc128 : mjCmp .le (lg_cmp (Z101.2.1 243 (mjIx ((Z101.1 211 65) - 1))) (Z101.2.1 243 (mjIx (Z101.1 211 65)))) 0 = true
        · rw [if_pos hc128] at h
          refine pG_ift (t := 83) rfl rfl hc128 ?_
          exact f286_compares_j83_ok (some (.int p0)) (some (.long (Z101.2.1 243 (mjIx ((Z101.1 211 65) - 1))))) none (some (.long (Z101.2.1 243 (mjIx (Z101.1 211 65))))) none none Z101 v9 Z9 h
        · rw [if_neg hc128] at h
          refine pG_iff (t := 83) rfl rfl hc128 ?_
          refine pG_many 1 (pc1 := 79) (L1 := [some (.ref 211), some (.int p0), some (.long (Z101.2.1 243 (mjIx ((Z101.1 211 65) - 1)))), none, some (.long (Z101.2.1 243 (mjIx (Z101.1 211 65)))), none, none]) (st1 := []) (M1 := mjTo Z101) rfl ?_
          exact f286_compares_j79_ok (some (.int p0)) (some (.long (Z101.2.1 243 (mjIx ((Z101.1 211 65) - 1))))) none (some (.long (Z101.2.1 243 (mjIx (Z101.1 211 65))))) none none Z101 v9 Z9 h
    · rw [if_neg hc125] at h
      refine pG_cmf (t := 56) rfl rfl hc125 ?_
      refine pG_many 3 (pc1 := 50) (L1 := [some (.ref 211), some (.int p0), some (.long (Z101.2.1 243 (mjIx ((Z101.1 211 65) - 1)))), none, some (.long (Z101.2.1 243 (mjIx (Z101.1 211 65)))), none, none]) (st1 := [.int (lg_cmp (Z101.2.1 243 (mjIx ((Z101.1 211 65) - 1))) (Z101.2.1 243 (mjIx (Z101.1 211 65))))]) (M1 := mjTo Z101) rfl ?_
      by_cases hc129 : mjCmp .ge (lg_cmp (Z101.2.1 243 (mjIx ((Z101.1 211 65) - 1))) (Z101.2.1 243 (mjIx (Z101.1 211 65)))) 0 = true
      · rw [if_pos hc129] at h
        refine pG_ift (t := 83) rfl rfl hc129 ?_
        exact f286_compares_j83_ok (some (.int p0)) (some (.long (Z101.2.1 243 (mjIx ((Z101.1 211 65) - 1))))) none (some (.long (Z101.2.1 243 (mjIx (Z101.1 211 65))))) none none Z101 v9 Z9 h
      · rw [if_neg hc129] at h
        refine pG_iff (t := 83) rfl rfl hc129 ?_
        refine pG_many 1 (pc1 := 79) (L1 := [some (.ref 211), some (.int p0), some (.long (Z101.2.1 243 (mjIx ((Z101.1 211 65) - 1)))), none, some (.long (Z101.2.1 243 (mjIx (Z101.1 211 65)))), none, none]) (st1 := []) (M1 := mjTo Z101) rfl ?_
        exact f286_compares_j79_ok (some (.int p0)) (some (.long (Z101.2.1 243 (mjIx ((Z101.1 211 65) - 1))))) none (some (.long (Z101.2.1 243 (mjIx (Z101.1 211 65))))) none none Z101 v9 Z9 h
def f287_joins_j104 (x2 : Int32) (x3 : Int32) (x4 : Int64) (Z : mjZt) : Option (Unit × mjZt) :=
  if mjIn x3 800 = true then
  if mjIn x2 800 = true then
  mjLet (zSl Z 244 (mjIx x2) (Z.2.1 244 (mjIx x3))) fun Z111 =>
  mjLet (zSl Z111 245 (mjIx x2) (Z111.2.1 245 (mjIx x3))) fun Z112 =>
  mjLet (zSl Z112 246 (mjIx x2) (Z112.2.1 246 (mjIx x3))) fun Z113 =>
  mjLet (zSl Z113 243 (mjIx x2) x4) fun Z114 =>
  some ((), Z114)
  else none
  else none
set_option maxRecDepth 4000 in
theorem f287_joins_j104_ok (x2 : Int32) (x3 : Int32) (x4 : Int64) (d1 d5 d6 d7 : Option Value) (Z : mjZt) (v9 : Unit) (Z9 : mjZt) (h : f287_joins_j104 x2 x3 x4 Z = some (v9, Z9)) : pG 287 104 [some (.ref 211), d1, some (.int x2), some (.int x3), some (.long x4), d5, d6, d7] [] (mjTo Z) (fun r M1 => r = none ∧ M1 = mjTo Z9) := by
  unfold f287_joins_j104 at h
  refine pG_many 1 (pc1 := 105) (L1 := [some (.ref 211), d1, some (.int x2), some (.int x3), some (.long x4), d5, d6, d7]) (st1 := [.ref 211]) (M1 := mjTo Z) rfl ?_
  refine pG_getR (ci := 12) (f := 62) (b := 244) rfl rfl rfl (by rfl) rfl ?_
  refine pG_many 2 (pc1 := 110) (L1 := [some (.ref 211), d1, some (.int x2), some (.int x3), some (.long x4), d5, d6, d7]) (st1 := [.ref 211, .int x2, .ref 244]) (M1 := mjTo Z) rfl ?_
  refine pG_getR (ci := 12) (f := 62) (b := 244) rfl rfl rfl (by rfl) rfl ?_
  refine pG_many 1 (pc1 := 114) (L1 := [some (.ref 211), d1, some (.int x2), some (.int x3), some (.long x4), d5, d6, d7]) (st1 := [.int x3, .ref 244, .int x2, .ref 244]) (M1 := mjTo Z) rfl ?_
  have hk109 : mjIn x3 800 = true := by
    by_cases q9 : mjIn x3 800 = true
    · exact q9
    · rw [if_neg q9] at h; cases h
  rw [if_pos hk109] at h
  refine pG_lal rfl (by rfl) hk109 ?_
  have hk110 : mjIn x2 800 = true := by
    by_cases q9 : mjIn x2 800 = true
    · exact q9
    · rw [if_neg q9] at h; cases h
  rw [if_pos hk110] at h
  refine pG_las rfl (by rfl) hk110 (?_ : pG 287 116 [some (.ref 211), d1, some (.int x2), some (.int x3), some (.long x4), d5, d6, d7] [] (mjTo (zSl Z 244 (mjIx x2) (Z.2.1 244 (mjIx x3)))) _)
  rw [mjLet] at h
  generalize zSl Z 244 (mjIx x2) (Z.2.1 244 (mjIx x3)) = Z111 at h ⊢
  refine pG_many 1 (pc1 := 117) (L1 := [some (.ref 211), d1, some (.int x2), some (.int x3), some (.long x4), d5, d6, d7]) (st1 := [.ref 211]) (M1 := mjTo Z111) rfl ?_
  refine pG_getR (ci := 12) (f := 63) (b := 245) rfl rfl rfl (by rfl) rfl ?_
  refine pG_many 2 (pc1 := 122) (L1 := [some (.ref 211), d1, some (.int x2), some (.int x3), some (.long x4), d5, d6, d7]) (st1 := [.ref 211, .int x2, .ref 245]) (M1 := mjTo Z111) rfl ?_
  refine pG_getR (ci := 12) (f := 63) (b := 245) rfl rfl rfl (by rfl) rfl ?_
  refine pG_many 1 (pc1 := 126) (L1 := [some (.ref 211), d1, some (.int x2), some (.int x3), some (.long x4), d5, d6, d7]) (st1 := [.int x3, .ref 245, .int x2, .ref 245]) (M1 := mjTo Z111) rfl ?_
  refine pG_lal rfl (by rfl) hk109 ?_
  refine pG_las rfl (by rfl) hk110 (?_ : pG 287 128 [some (.ref 211), d1, some (.int x2), some (.int x3), some (.long x4), d5, d6, d7] [] (mjTo (zSl Z111 245 (mjIx x2) (Z111.2.1 245 (mjIx x3)))) _)
  rw [mjLet] at h
  generalize zSl Z111 245 (mjIx x2) (Z111.2.1 245 (mjIx x3)) = Z112 at h ⊢
  refine pG_many 1 (pc1 := 129) (L1 := [some (.ref 211), d1, some (.int x2), some (.int x3), some (.long x4), d5, d6, d7]) (st1 := [.ref 211]) (M1 := mjTo Z112) rfl ?_
  refine pG_getR (ci := 12) (f := 64) (b := 246) rfl rfl rfl (by rfl) rfl ?_
  refine pG_many 2 (pc1 := 134) (L1 := [some (.ref 211), d1, some (.int x2), some (.int x3), some (.long x4), d5, d6, d7]) (st1 := [.ref 211, .int x2, .ref 246]) (M1 := mjTo Z112) rfl ?_
  refine pG_getR (ci := 12) (f := 64) (b := 246) rfl rfl rfl (by rfl) rfl ?_
  refine pG_many 1 (pc1 := 138) (L1 := [some (.ref 211), d1, some (.int x2), some (.int x3), some (.long x4), d5, d6, d7]) (st1 := [.int x3, .ref 246, .int x2, .ref 246]) (M1 := mjTo Z112) rfl ?_
  refine pG_lal rfl (by rfl) hk109 ?_
  refine pG_las rfl (by rfl) hk110 (?_ : pG 287 140 [some (.ref 211), d1, some (.int x2), some (.int x3), some (.long x4), d5, d6, d7] [] (mjTo (zSl Z112 246 (mjIx x2) (Z112.2.1 246 (mjIx x3)))) _)
  rw [mjLet] at h
  generalize zSl Z112 246 (mjIx x2) (Z112.2.1 246 (mjIx x3)) = Z113 at h ⊢
  refine pG_many 1 (pc1 := 141) (L1 := [some (.ref 211), d1, some (.int x2), some (.int x3), some (.long x4), d5, d6, d7]) (st1 := [.ref 211]) (M1 := mjTo Z113) rfl ?_
  refine pG_getR (ci := 12) (f := 61) (b := 243) rfl rfl rfl (by rfl) rfl ?_
  refine pG_many 2 (pc1 := 147) (L1 := [some (.ref 211), d1, some (.int x2), some (.int x3), some (.long x4), d5, d6, d7]) (st1 := [.long x4, .int x2, .ref 243]) (M1 := mjTo Z113) rfl ?_
  refine pG_las rfl (by rfl) hk110 (?_ : pG 287 148 [some (.ref 211), d1, some (.int x2), some (.int x3), some (.long x4), d5, d6, d7] [] (mjTo (zSl Z113 243 (mjIx x2) x4)) _)
  rw [mjLet] at h
  generalize zSl Z113 243 (mjIx x2) x4 = Z114 at h ⊢
  simp only [Option.some.injEq, Prod.mk.injEq] at h
  obtain ⟨-, rfl⟩ := h
  exact pG_ret (r := none) rfl ⟨rfl, rfl⟩
def f287_joins_j81 (x2 : Int32) (x3 : Int32) (x4 : Int64) (x6 : Int32) (x7 : Int32) (Z : mjZt) : Option (Unit × mjZt) :=
  if mjCmp .eq x6 0 = true then
    f287_joins_j104 x2 x3 x4 Z
  else
    if mjCmp .eq x7 0 = true then
      if mjIn x2 800 = true then
      mjLet (zSl Z 243 (mjIx x2) x4) fun Z117 =>
      some ((), Z117)
      else none
    else
      mjBp (f284_size x3 Z) fun v119 =>
      mjBp (f284_size x2 Z) fun v122 =>
      if mjCmp .ge v119 v122 = true then
        if mjIn x2 800 = true then
        mjLet (zSl Z 243 (mjIx x2) x4) fun Z126 =>
        some ((), Z126)
        else none
      else
        f287_joins_j104 x2 x3 x4 Z
set_option maxRecDepth 4000 in
theorem f287_joins_j81_ok (x2 : Int32) (x3 : Int32) (x4 : Int64) (x6 : Int32) (x7 : Int32) (d1 d5 : Option Value) (Z : mjZt) (v9 : Unit) (Z9 : mjZt) (h : f287_joins_j81 x2 x3 x4 x6 x7 Z = some (v9, Z9)) : pG 287 81 [some (.ref 211), d1, some (.int x2), some (.int x3), some (.long x4), d5, some (.int x6), some (.int x7)] [] (mjTo Z) (fun r M1 => r = none ∧ M1 = mjTo Z9) := by
  unfold f287_joins_j81 at h
  refine pG_many 1 (pc1 := 83) (L1 := [some (.ref 211), d1, some (.int x2), some (.int x3), some (.long x4), d5, some (.int x6), some (.int x7)]) (st1 := [.int x6]) (M1 := mjTo Z) rfl ?_
  by_cases hc108 : mjCmp .eq x6 0 = true
  · rw [if_pos hc108] at h
    refine pG_ift (t := 104) rfl rfl hc108 ?_
    exact f287_joins_j104_ok x2 x3 x4 d1 d5 (some (.int x6)) (some (.int x7)) Z v9 Z9 h
  · rw [if_neg hc108] at h
    refine pG_iff (t := 104) rfl rfl hc108 ?_
    refine pG_many 1 (pc1 := 88) (L1 := [some (.ref 211), d1, some (.int x2), some (.int x3), some (.long x4), d5, some (.int x6), some (.int x7)]) (st1 := [.int x7]) (M1 := mjTo Z) rfl ?_
    by_cases hc115 : mjCmp .eq x7 0 = true
    · rw [if_pos hc115] at h
      refine pG_ift (t := 140) rfl rfl hc115 ?_
      refine pG_many 1 (pc1 := 141) (L1 := [some (.ref 211), d1, some (.int x2), some (.int x3), some (.long x4), d5, some (.int x6), some (.int x7)]) (st1 := [.ref 211]) (M1 := mjTo Z) rfl ?_
      refine pG_getR (ci := 12) (f := 61) (b := 243) rfl rfl rfl (by rfl) rfl ?_
      refine pG_many 2 (pc1 := 147) (L1 := [some (.ref 211), d1, some (.int x2), some (.int x3), some (.long x4), d5, some (.int x6), some (.int x7)]) (st1 := [.long x4, .int x2, .ref 243]) (M1 := mjTo Z) rfl ?_
      have hk116 : mjIn x2 800 = true := by
        by_cases q9 : mjIn x2 800 = true
        · exact q9
        · rw [if_neg q9] at h; cases h
      rw [if_pos hk116] at h
      refine pG_las rfl (by rfl) hk116 (?_ : pG 287 148 [some (.ref 211), d1, some (.int x2), some (.int x3), some (.long x4), d5, some (.int x6), some (.int x7)] [] (mjTo (zSl Z 243 (mjIx x2) x4)) _)
      rw [mjLet] at h
      generalize zSl Z 243 (mjIx x2) x4 = Z117 at h ⊢
      simp only [Option.some.injEq, Prod.mk.injEq] at h
      obtain ⟨-, rfl⟩ := h
      exact pG_ret (r := none) rfl ⟨rfl, rfl⟩
    · rw [if_neg hc115] at h
      refine pG_iff (t := 140) rfl rfl hc115 ?_
      refine pG_many 2 (pc1 := 93) (L1 := [some (.ref 211), d1, some (.int x2), some (.int x3), some (.long x4), d5, some (.int x6), some (.int x7)]) (st1 := [.int x3, .ref 211]) (M1 := mjTo Z) rfl ?_
      cases hq118 : f284_size x3 Z with
      | none => rw [hq118] at h; cases h
      | some v119 =>
        rw [hq118, mjBp_some] at h
        refine pG_callV (k2 := 284) (As := [.ref 211, .int x3]) (rest := []) rfl rfl rfl rfl rfl (by rfl) (by decide) (f284_size_ok hq118) ?_
        rintro r9 M9 ⟨rfl, rfl⟩
        show pG 287 96 [some (.ref 211), d1, some (.int x2), some (.int x3), some (.long x4), d5, some (.int x6), some (.int x7)] [.int v119] (mjTo Z) _
        refine pG_many 2 (pc1 := 98) (L1 := [some (.ref 211), d1, some (.int x2), some (.int x3), some (.long x4), d5, some (.int x6), some (.int x7)]) (st1 := [.int x2, .ref 211, .int v119]) (M1 := mjTo Z) rfl ?_
        cases hq121 : f284_size x2 Z with
        | none => rw [hq121] at h; cases h
        | some v122 =>
          rw [hq121, mjBp_some] at h
          refine pG_callV (k2 := 284) (As := [.ref 211, .int x2]) (rest := [.int v119]) rfl rfl rfl rfl rfl (by rfl) (by decide) (f284_size_ok hq121) ?_
          rintro r9 M9 ⟨rfl, rfl⟩
          show pG 287 101 [some (.ref 211), d1, some (.int x2), some (.int x3), some (.long x4), d5, some (.int x6), some (.int x7)] [.int v122, .int v119] (mjTo Z) _
          by_cases hc124 : mjCmp .ge v119 v122 = true
          · rw [if_pos hc124] at h
            refine pG_cmt (t := 140) rfl rfl hc124 ?_
            refine pG_many 1 (pc1 := 141) (L1 := [some (.ref 211), d1, some (.int x2), some (.int x3), some (.long x4), d5, some (.int x6), some (.int x7)]) (st1 := [.ref 211]) (M1 := mjTo Z) rfl ?_
            refine pG_getR (ci := 12) (f := 61) (b := 243) rfl rfl rfl (by rfl) rfl ?_
            refine pG_many 2 (pc1 := 147) (L1 := [some (.ref 211), d1, some (.int x2), some (.int x3), some (.long x4), d5, some (.int x6), some (.int x7)]) (st1 := [.long x4, .int x2, .ref 243]) (M1 := mjTo Z) rfl ?_
            have hk125 : mjIn x2 800 = true := by
              by_cases q9 : mjIn x2 800 = true
              · exact q9
              · rw [if_neg q9] at h; cases h
            rw [if_pos hk125] at h
            refine pG_las rfl (by rfl) hk125 (?_ : pG 287 148 [some (.ref 211), d1, some (.int x2), some (.int x3), some (.long x4), d5, some (.int x6), some (.int x7)] [] (mjTo (zSl Z 243 (mjIx x2) x4)) _)
            rw [mjLet] at h
            generalize zSl Z 243 (mjIx x2) x4 = Z126 at h ⊢
            simp only [Option.some.injEq, Prod.mk.injEq] at h
            obtain ⟨-, rfl⟩ := h
            exact pG_ret (r := none) rfl ⟨rfl, rfl⟩
          · rw [if_neg hc124] at h
            refine pG_cmf (t := 140) rfl rfl hc124 ?_
            exact f287_joins_j104_ok x2 x3 x4 d1 d5 (some (.int x6)) (some (.int x7)) Z v9 Z9 h
def f287_joins_j69 (x2 : Int32) (x3 : Int32) (x4 : Int64) (x6 : Int32) (s0 : Int32) (Z : mjZt) : Option (Unit × mjZt) :=
  if mjCmp .ne x6 0 = true then
    f287_joins_j81 x2 x3 x4 x6 s0 Z
  else
    if mjCmp .eq s0 0 = true then
      if mjIn x2 800 = true then
      if mjIn x3 800 = true then
      mjLet (zSl Z 244 (mjIx x2) ((Z.2.1 244 (mjIx x2)) ||| (Z.2.1 244 (mjIx x3)))) fun Z130 =>
      mjLet (zSl Z130 245 (mjIx x2) ((Z130.2.1 245 (mjIx x2)) ||| (Z130.2.1 245 (mjIx x3)))) fun Z131 =>
      mjLet (zSl Z131 246 (mjIx x2) ((Z131.2.1 246 (mjIx x2)) ||| (Z131.2.1 246 (mjIx x3)))) fun Z132 =>
      some ((), Z132)
      else none
      else none
    else
      f287_joins_j81 x2 x3 x4 x6 s0 Z
set_option maxRecDepth 4000 in
theorem f287_joins_j69_ok (x2 : Int32) (x3 : Int32) (x4 : Int64) (x6 : Int32) (s0 : Int32) (d1 d5 d7 : Option Value) (Z : mjZt) (v9 : Unit) (Z9 : mjZt) (h : f287_joins_j69 x2 x3 x4 x6 s0 Z = some (v9, Z9)) : pG 287 69 [some (.ref 211), d1, some (.int x2), some (.int x3), some (.long x4), d5, some (.int x6), d7] [.int s0] (mjTo Z) (fun r M1 => r = none ∧ M1 = mjTo Z9) := by
  unfold f287_joins_j69 at h
  refine pG_many 2 (pc1 := 73) (L1 := [some (.ref 211), d1, some (.int x2), some (.int x3), some (.long x4), d5, some (.int x6), some (.int s0)]) (st1 := [.int x6]) (M1 := mjTo Z) rfl ?_
  by_cases hc107 : mjCmp .ne x6 0 = true
  · rw [if_pos hc107] at h
    refine pG_ift (t := 81) rfl rfl hc107 ?_
    exact f287_joins_j81_ok x2 x3 x4 x6 s0 d1 d5 Z v9 Z9 h
  · rw [if_neg hc107] at h
    refine pG_iff (t := 81) rfl rfl hc107 ?_
    refine pG_many 1 (pc1 := 78) (L1 := [some (.ref 211), d1, some (.int x2), some (.int x3), some (.long x4), d5, some (.int x6), some (.int s0)]) (st1 := [.int s0]) (M1 := mjTo Z) rfl ?_
    by_cases hc127 : mjCmp .eq s0 0 = true
    · rw [if_pos hc127] at h
      refine pG_ift (t := 149) rfl rfl hc127 ?_
      refine pG_many 1 (pc1 := 150) (L1 := [some (.ref 211), d1, some (.int x2), some (.int x3), some (.long x4), d5, some (.int x6), some (.int s0)]) (st1 := [.ref 211]) (M1 := mjTo Z) rfl ?_
      refine pG_getR (ci := 12) (f := 62) (b := 244) rfl rfl rfl (by rfl) rfl ?_
      refine pG_many 2 (pc1 := 155) (L1 := [some (.ref 211), d1, some (.int x2), some (.int x3), some (.long x4), d5, some (.int x6), some (.int s0)]) (st1 := [.int x2, .ref 244, .int x2, .ref 244]) (M1 := mjTo Z) rfl ?_
      have hk128 : mjIn x2 800 = true := by
        by_cases q9 : mjIn x2 800 = true
        · exact q9
        · rw [if_neg q9] at h; cases h
      rw [if_pos hk128] at h
      refine pG_lal rfl (by rfl) hk128 ?_
      refine pG_many 1 (pc1 := 157) (L1 := [some (.ref 211), d1, some (.int x2), some (.int x3), some (.long x4), d5, some (.int x6), some (.int s0)]) (st1 := [.ref 211, .long (Z.2.1 244 (mjIx x2)), .int x2, .ref 244]) (M1 := mjTo Z) rfl ?_
      refine pG_getR (ci := 12) (f := 62) (b := 244) rfl rfl rfl (by rfl) rfl ?_
      refine pG_many 1 (pc1 := 161) (L1 := [some (.ref 211), d1, some (.int x2), some (.int x3), some (.long x4), d5, some (.int x6), some (.int s0)]) (st1 := [.int x3, .ref 244, .long (Z.2.1 244 (mjIx x2)), .int x2, .ref 244]) (M1 := mjTo Z) rfl ?_
      have hk129 : mjIn x3 800 = true := by
        by_cases q9 : mjIn x3 800 = true
        · exact q9
        · rw [if_neg q9] at h; cases h
      rw [if_pos hk129] at h
      refine pG_lal rfl (by rfl) hk129 ?_
      refine pG_many 1 (pc1 := 163) (L1 := [some (.ref 211), d1, some (.int x2), some (.int x3), some (.long x4), d5, some (.int x6), some (.int s0)]) (st1 := [.long ((Z.2.1 244 (mjIx x2)) ||| (Z.2.1 244 (mjIx x3))), .int x2, .ref 244]) (M1 := mjTo Z) rfl ?_
      refine pG_las rfl (by rfl) hk128 (?_ : pG 287 164 [some (.ref 211), d1, some (.int x2), some (.int x3), some (.long x4), d5, some (.int x6), some (.int s0)] [] (mjTo (zSl Z 244 (mjIx x2) ((Z.2.1 244 (mjIx x2)) ||| (Z.2.1 244 (mjIx x3))))) _)
      rw [mjLet] at h
      generalize zSl Z 244 (mjIx x2) ((Z.2.1 244 (mjIx x2)) ||| (Z.2.1 244 (mjIx x3))) = Z130 at h ⊢
      refine pG_many 1 (pc1 := 165) (L1 := [some (.ref 211), d1, some (.int x2), some (.int x3), some (.long x4), d5, some (.int x6), some (.int s0)]) (st1 := [.ref 211]) (M1 := mjTo Z130) rfl ?_
      refine pG_getR (ci := 12) (f := 63) (b := 245) rfl rfl rfl (by rfl) rfl ?_
      refine pG_many 2 (pc1 := 170) (L1 := [some (.ref 211), d1, some (.int x2), some (.int x3), some (.long x4), d5, some (.int x6), some (.int s0)]) (st1 := [.int x2, .ref 245, .int x2, .ref 245]) (M1 := mjTo Z130) rfl ?_
      refine pG_lal rfl (by rfl) hk128 ?_
      refine pG_many 1 (pc1 := 172) (L1 := [some (.ref 211), d1, some (.int x2), some (.int x3), some (.long x4), d5, some (.int x6), some (.int s0)]) (st1 := [.ref 211, .long (Z130.2.1 245 (mjIx x2)), .int x2, .ref 245]) (M1 := mjTo Z130) rfl ?_
      refine pG_getR (ci := 12) (f := 63) (b := 245) rfl rfl rfl (by rfl) rfl ?_
      refine pG_many 1 (pc1 := 176) (L1 := [some (.ref 211), d1, some (.int x2), some (.int x3), some (.long x4), d5, some (.int x6), some (.int s0)]) (st1 := [.int x3, .ref 245, .long (Z130.2.1 245 (mjIx x2)), .int x2, .ref 245]) (M1 := mjTo Z130) rfl ?_
      refine pG_lal rfl (by rfl) hk129 ?_
      refine pG_many 1 (pc1 := 178) (L1 := [some (.ref 211), d1, some (.int x2), some (.int x3), some (.long x4), d5, some (.int x6), some (.int s0)]) (st1 := [.long ((Z130.2.1 245 (mjIx x2)) ||| (Z130.2.1 245 (mjIx x3))), .int x2, .ref 245]) (M1 := mjTo Z130) rfl ?_
      refine pG_las rfl (by rfl) hk128 (?_ : pG 287 179 [some (.ref 211), d1, some (.int x2), some (.int x3), some (.long x4), d5, some (.int x6), some (.int s0)] [] (mjTo (zSl Z130 245 (mjIx x2) ((Z130.2.1 245 (mjIx x2)) ||| (Z130.2.1 245 (mjIx x3))))) _)
      rw [mjLet] at h
      generalize zSl Z130 245 (mjIx x2) ((Z130.2.1 245 (mjIx x2)) ||| (Z130.2.1 245 (mjIx x3))) = Z131 at h ⊢
      refine pG_many 1 (pc1 := 180) (L1 := [some (.ref 211), d1, some (.int x2), some (.int x3), some (.long x4), d5, some (.int x6), some (.int s0)]) (st1 := [.ref 211]) (M1 := mjTo Z131) rfl ?_
      refine pG_getR (ci := 12) (f := 64) (b := 246) rfl rfl rfl (by rfl) rfl ?_
      refine pG_many 2 (pc1 := 185) (L1 := [some (.ref 211), d1, some (.int x2), some (.int x3), some (.long x4), d5, some (.int x6), some (.int s0)]) (st1 := [.int x2, .ref 246, .int x2, .ref 246]) (M1 := mjTo Z131) rfl ?_
      refine pG_lal rfl (by rfl) hk128 ?_
      refine pG_many 1 (pc1 := 187) (L1 := [some (.ref 211), d1, some (.int x2), some (.int x3), some (.long x4), d5, some (.int x6), some (.int s0)]) (st1 := [.ref 211, .long (Z131.2.1 246 (mjIx x2)), .int x2, .ref 246]) (M1 := mjTo Z131) rfl ?_
      refine pG_getR (ci := 12) (f := 64) (b := 246) rfl rfl rfl (by rfl) rfl ?_
      refine pG_many 1 (pc1 := 191) (L1 := [some (.ref 211), d1, some (.int x2), some (.int x3), some (.long x4), d5, some (.int x6), some (.int s0)]) (st1 := [.int x3, .ref 246, .long (Z131.2.1 246 (mjIx x2)), .int x2, .ref 246]) (M1 := mjTo Z131) rfl ?_
      refine pG_lal rfl (by rfl) hk129 ?_
      refine pG_many 1 (pc1 := 193) (L1 := [some (.ref 211), d1, some (.int x2), some (.int x3), some (.long x4), d5, some (.int x6), some (.int s0)]) (st1 := [.long ((Z131.2.1 246 (mjIx x2)) ||| (Z131.2.1 246 (mjIx x3))), .int x2, .ref 246]) (M1 := mjTo Z131) rfl ?_
      refine pG_las rfl (by rfl) hk128 (?_ : pG 287 194 [some (.ref 211), d1, some (.int x2), some (.int x3), some (.long x4), d5, some (.int x6), some (.int s0)] [] (mjTo (zSl Z131 246 (mjIx x2) ((Z131.2.1 246 (mjIx x2)) ||| (Z131.2.1 246 (mjIx x3))))) _)
      rw [mjLet] at h
      generalize zSl Z131 246 (mjIx x2) ((Z131.2.1 246 (mjIx x2)) ||| (Z131.2.1 246 (mjIx x3))) = Z132 at h ⊢
      simp only [Option.some.injEq, Prod.mk.injEq] at h
      obtain ⟨-, rfl⟩ := h
      exact pG_ret (r := none) rfl ⟨rfl, rfl⟩
    · rw [if_neg hc127] at h
      refine pG_iff (t := 149) rfl rfl hc127 ?_
      exact f287_joins_j81_ok x2 x3 x4 x6 s0 d1 d5 Z v9 Z9 h
def f287_joins_j50 (x2 : Int32) (x3 : Int32) (x4 : Int64) (s0 : Int32) (Z : mjZt) : Option (Unit × mjZt) :=
  if mjIn x3 800 = true then
  if mjCmp .ne (lg_cmp (Z.2.1 243 (mjIx x3)) x4) 0 = true then
    f287_joins_j69 x2 x3 x4 s0 0 Z
  else
    f287_joins_j69 x2 x3 x4 s0 1 Z
  else none
set_option maxRecDepth 4000 in
theorem f287_joins_j50_ok (x2 : Int32) (x3 : Int32) (x4 : Int64) (s0 : Int32) (d1 d5 d6 d7 : Option Value) (Z : mjZt) (v9 : Unit) (Z9 : mjZt) (h : f287_joins_j50 x2 x3 x4 s0 Z = some (v9, Z9)) : pG 287 50 [some (.ref 211), d1, some (.int x2), some (.int x3), some (.long x4), d5, d6, d7] [.int s0] (mjTo Z) (fun r M1 => r = none ∧ M1 = mjTo Z9) := by
  unfold f287_joins_j50 at h
  refine pG_many 2 (pc1 := 53) (L1 := [some (.ref 211), d1, some (.int x2), some (.int x3), some (.long x4), (mjK1 d5), some (.int s0), d7]) (st1 := [.ref 211]) (M1 := mjTo Z) rfl ?_
  refine pG_getR (ci := 12) (f := 61) (b := 243) rfl rfl rfl (by rfl) rfl ?_
  refine pG_many 1 (pc1 := 57) (L1 := [some (.ref 211), d1, some (.int x2), some (.int x3), some (.long x4), (mjK1 d5), some (.int s0), d7]) (st1 := [.int x3, .ref 243]) (M1 := mjTo Z) rfl ?_
  have hk105 : mjIn x3 800 = true := by
    by_cases q9 : mjIn x3 800 = true
    · exact q9
    · rw [if_neg q9] at h; cases h
  rw [if_pos hk105] at h
  refine pG_lal rfl (by rfl) hk105 ?_
  refine pG_many 2 (pc1 := 61) (L1 := [some (.ref 211), d1, some (.int x2), some (.int x3), some (.long x4), (mjK1 d5), some (.int s0), d7]) (st1 := [.int (lg_cmp (Z.2.1 243 (mjIx x3)) x4)]) (M1 := mjTo Z) rfl ?_
  by_cases hc106 : mjCmp .ne (lg_cmp (Z.2.1 243 (mjIx x3)) x4) 0 = true
  · rw [if_pos hc106] at h
    refine pG_ift (t := 68) rfl rfl hc106 ?_
    refine pG_many 1 (pc1 := 69) (L1 := [some (.ref 211), d1, some (.int x2), some (.int x3), some (.long x4), (mjK1 d5), some (.int s0), d7]) (st1 := [.int 0]) (M1 := mjTo Z) rfl ?_
    exact f287_joins_j69_ok x2 x3 x4 s0 0 d1 ((mjK1 d5)) d7 Z v9 Z9 h
  · rw [if_neg hc106] at h
    refine pG_iff (t := 68) rfl rfl hc106 ?_
    refine pG_many 2 (pc1 := 69) (L1 := [some (.ref 211), d1, some (.int x2), some (.int x3), some (.long x4), (mjK1 d5), some (.int s0), d7]) (st1 := [.int 1]) (M1 := mjTo Z) rfl ?_
    exact f287_joins_j69_ok x2 x3 x4 s0 1 d1 ((mjK1 d5)) d7 Z v9 Z9 h
def f287_joins_j31 (x2 : Int32) (x3 : Int32) (s0 : Int64) (Z : mjZt) : Option (Unit × mjZt) :=
  if mjIn x2 800 = true then
  if mjCmp .ne (lg_cmp (Z.2.1 243 (mjIx x2)) s0) 0 = true then
    f287_joins_j50 x2 x3 s0 0 Z
  else
    f287_joins_j50 x2 x3 s0 1 Z
  else none
set_option maxRecDepth 4000 in
theorem f287_joins_j31_ok (x2 : Int32) (x3 : Int32) (s0 : Int64) (d1 d4 d5 d6 d7 : Option Value) (Z : mjZt) (v9 : Unit) (Z9 : mjZt) (h : f287_joins_j31 x2 x3 s0 Z = some (v9, Z9)) : pG 287 31 [some (.ref 211), d1, some (.int x2), some (.int x3), d4, d5, d6, d7] [.long s0] (mjTo Z) (fun r M1 => r = none ∧ M1 = mjTo Z9) := by
  unfold f287_joins_j31 at h
  refine pG_many 2 (pc1 := 34) (L1 := [some (.ref 211), d1, some (.int x2), some (.int x3), some (.long s0), none, d6, d7]) (st1 := [.ref 211]) (M1 := mjTo Z) rfl ?_
  refine pG_getR (ci := 12) (f := 61) (b := 243) rfl rfl rfl (by rfl) rfl ?_
  refine pG_many 1 (pc1 := 38) (L1 := [some (.ref 211), d1, some (.int x2), some (.int x3), some (.long s0), none, d6, d7]) (st1 := [.int x2, .ref 243]) (M1 := mjTo Z) rfl ?_
  have hk103 : mjIn x2 800 = true := by
    by_cases q9 : mjIn x2 800 = true
    · exact q9
    · rw [if_neg q9] at h; cases h
  rw [if_pos hk103] at h
  refine pG_lal rfl (by rfl) hk103 ?_
  refine pG_many 2 (pc1 := 42) (L1 := [some (.ref 211), d1, some (.int x2), some (.int x3), some (.long s0), none, d6, d7]) (st1 := [.int (lg_cmp (Z.2.1 243 (mjIx x2)) s0)]) (M1 := mjTo Z) rfl ?_
  by_cases hc104 : mjCmp .ne (lg_cmp (Z.2.1 243 (mjIx x2)) s0) 0 = true
  · rw [if_pos hc104] at h
    refine pG_ift (t := 49) rfl rfl hc104 ?_
    refine pG_many 1 (pc1 := 50) (L1 := [some (.ref 211), d1, some (.int x2), some (.int x3), some (.long s0), none, d6, d7]) (st1 := [.int 0]) (M1 := mjTo Z) rfl ?_
    exact f287_joins_j50_ok x2 x3 s0 0 d1 none d6 d7 Z v9 Z9 h
  · rw [if_neg hc104] at h
    refine pG_iff (t := 49) rfl rfl hc104 ?_
    refine pG_many 2 (pc1 := 50) (L1 := [some (.ref 211), d1, some (.int x2), some (.int x3), some (.long s0), none, d6, d7]) (st1 := [.int 1]) (M1 := mjTo Z) rfl ?_
    exact f287_joins_j50_ok x2 x3 s0 1 d1 none d6 d7 Z v9 Z9 h
def f287_joins (p0 : Int32) (Z : mjZt) : Option (Unit × mjZt) :=
  mjLet (zSi Z 211 65 ((Z.1 211 65) - 1)) fun Z101 =>
  if mjCmp .eq p0 0 = true then
    f287_joins_j31 ((Z101.1 211 65) - 1) (Z101.1 211 65) 0 Z101
  else
    f287_joins_j31 ((Z101.1 211 65) - 1) (Z101.1 211 65) 1 Z101
set_option maxRecDepth 4000 in
theorem f287_joins_ok {p0 : Int32} {Z : mjZt} {v9 : Unit} {Z9 : mjZt} (h : f287_joins p0 Z = some (v9, Z9)) : pG 287 0 (mjEnt [.ref 211, .int p0] (mjML 287)) [] (mjTo Z) (fun r M1 => r = none ∧ M1 = mjTo Z9) := by
  unfold f287_joins at h
  show pG 287 0 [some (.ref 211), some (.int p0), none, none, none, none, none, none] [] (mjTo Z) _
  refine pG_many 2 (pc1 := 2) (L1 := [some (.ref 211), some (.int p0), none, none, none, none, none, none]) (st1 := [.ref 211, .ref 211]) (M1 := mjTo Z) rfl ?_
  refine pG_getI (ci := 12) (f := 65) rfl rfl (Or.inl rfl) (by rfl) ?_
  refine pG_many 2 (pc1 := 7) (L1 := [some (.ref 211), some (.int p0), none, none, none, none, none, none]) (st1 := [.int ((Z.1 211 65) - 1), .ref 211]) (M1 := mjTo Z) rfl ?_
  refine pG_putI (ci := 12) (f := 65) rfl rfl rfl rfl (by rfl) ?_
  rw [mjLet] at h
  generalize zSi Z 211 65 ((Z.1 211 65) - 1) = Z101 at h ⊢
  refine pG_many 1 (pc1 := 11) (L1 := [some (.ref 211), some (.int p0), none, none, none, none, none, none]) (st1 := [.ref 211]) (M1 := mjTo Z101) rfl ?_
  refine pG_getI (ci := 12) (f := 65) rfl rfl (Or.inl rfl) (by rfl) ?_
  refine pG_many 4 (pc1 := 18) (L1 := [some (.ref 211), some (.int p0), some (.int ((Z101.1 211 65) - 1)), none, none, none, none, none]) (st1 := [.ref 211]) (M1 := mjTo Z101) rfl ?_
  refine pG_getI (ci := 12) (f := 65) rfl rfl (Or.inl rfl) (by rfl) ?_
  refine pG_many 2 (pc1 := 23) (L1 := [some (.ref 211), some (.int p0), some (.int ((Z101.1 211 65) - 1)), some (.int (Z101.1 211 65)), none, none, none, none]) (st1 := [.int p0]) (M1 := mjTo Z101) rfl ?_
  by_cases hc102 : mjCmp .eq p0 0 = true
  · rw [if_pos hc102] at h
    refine pG_ift (t := 30) rfl rfl hc102 ?_
    refine pG_many 1 (pc1 := 31) (L1 := [some (.ref 211), some (.int p0), some (.int ((Z101.1 211 65) - 1)), some (.int (Z101.1 211 65)), none, none, none, none]) (st1 := [.long 0]) (M1 := mjTo Z101) rfl ?_
    exact f287_joins_j31_ok ((Z101.1 211 65) - 1) (Z101.1 211 65) 0 (some (.int p0)) none none none none Z101 v9 Z9 h
  · rw [if_neg hc102] at h
    refine pG_iff (t := 30) rfl rfl hc102 ?_
    refine pG_many 2 (pc1 := 31) (L1 := [some (.ref 211), some (.int p0), some (.int ((Z101.1 211 65) - 1)), some (.int (Z101.1 211 65)), none, none, none, none]) (st1 := [.long 1]) (M1 := mjTo Z101) rfl ?_
    exact f287_joins_j31_ok ((Z101.1 211 65) - 1) (Z101.1 211 65) 1 (some (.int p0)) none none none none Z101 v9 Z9 h
def f288_worked_j128 (R : Int32 → Int32 → Int32 → mjZt → Option (Int32 × mjZt)) (x1 : Int32) (x3 : Int32) (x4 : Int32) (x5 : Int32) (Z : mjZt) : Option (Int32 × mjZt) :=
  mjLet (zSi Z 211 65 ((Z.1 211 65) - 1)) fun Z110 =>
  if mjIn ((Z110.1 211 65) - 1) 800 = true then
  if mjIn (Z110.1 211 65) 800 = true then
  if mjCmp .ne x5 21 = true then
    if mjCmp .ne x5 22 = true then
      mjBd (f285_kept ((Z110.2.1 243 (mjIx ((Z110.1 211 65) - 1))) * (Z110.2.1 243 (mjIx (Z110.1 211 65)))) Z110) fun v116 Z117 =>
      mjLet (zSl Z117 243 (mjIx ((Z110.1 211 65) - 1)) v116) fun Z118 =>
      R x1 x3 (x4 + 1) Z118
    else
      mjBd (f285_kept ((Z110.2.1 243 (mjIx ((Z110.1 211 65) - 1))) - (Z110.2.1 243 (mjIx (Z110.1 211 65)))) Z110) fun v120 Z121 =>
      mjLet (zSl Z121 243 (mjIx ((Z110.1 211 65) - 1)) v120) fun Z122 =>
      R x1 x3 (x4 + 1) Z122
  else
    mjBd (f285_kept ((Z110.2.1 243 (mjIx ((Z110.1 211 65) - 1))) + (Z110.2.1 243 (mjIx (Z110.1 211 65)))) Z110) fun v124 Z125 =>
    mjLet (zSl Z125 243 (mjIx ((Z110.1 211 65) - 1)) v124) fun Z126 =>
    R x1 x3 (x4 + 1) Z126
  else none
  else none
set_option maxRecDepth 4000 in
theorem f288_worked_j128_ok (R : Int32 → Int32 → Int32 → mjZt → Option (Int32 × mjZt)) (hR : ∀ (x1 : Int32) (x3 : Int32) (x4 : Int32) (d2 d5 d6 d7 d8 d9 : Option Value) (Z : mjZt) (v9 : Int32) (Z9 : mjZt), R x1 x3 x4 Z = some (v9, Z9) → pG 288 18 [some (.ref 211), some (.int x1), d2, some (.int x3), some (.int x4), d5, d6, d7, d8, d9] [] (mjTo Z) (fun r M1 => r = some (.int v9) ∧ M1 = mjTo Z9)) (x1 : Int32) (x3 : Int32) (x4 : Int32) (x5 : Int32) (d2 d6 d7 d8 d9 : Option Value) (Z : mjZt) (v9 : Int32) (Z9 : mjZt) (h : f288_worked_j128 R x1 x3 x4 x5 Z = some (v9, Z9)) : pG 288 128 [some (.ref 211), some (.int x1), d2, some (.int x3), some (.int x4), some (.int x5), d6, d7, d8, d9] [] (mjTo Z) (fun r M1 => r = some (.int v9) ∧ M1 = mjTo Z9) := by
  unfold f288_worked_j128 at h
  refine pG_many 2 (pc1 := 130) (L1 := [some (.ref 211), some (.int x1), d2, some (.int x3), some (.int x4), some (.int x5), d6, d7, d8, d9]) (st1 := [.ref 211, .ref 211]) (M1 := mjTo Z) rfl ?_
  refine pG_getI (ci := 12) (f := 65) rfl rfl (Or.inl rfl) (by rfl) ?_
  refine pG_many 2 (pc1 := 135) (L1 := [some (.ref 211), some (.int x1), d2, some (.int x3), some (.int x4), some (.int x5), d6, d7, d8, d9]) (st1 := [.int ((Z.1 211 65) - 1), .ref 211]) (M1 := mjTo Z) rfl ?_
  refine pG_putI (ci := 12) (f := 65) rfl rfl rfl rfl (by rfl) ?_
  rw [mjLet] at h
  generalize zSi Z 211 65 ((Z.1 211 65) - 1) = Z110 at h ⊢
  refine pG_many 1 (pc1 := 139) (L1 := [some (.ref 211), some (.int x1), d2, some (.int x3), some (.int x4), some (.int x5), d6, d7, d8, d9]) (st1 := [.ref 211]) (M1 := mjTo Z110) rfl ?_
  refine pG_getR (ci := 12) (f := 61) (b := 243) rfl rfl rfl (by rfl) rfl ?_
  refine pG_many 1 (pc1 := 143) (L1 := [some (.ref 211), some (.int x1), d2, some (.int x3), some (.int x4), some (.int x5), d6, d7, d8, d9]) (st1 := [.ref 211, .ref 243]) (M1 := mjTo Z110) rfl ?_
  refine pG_getI (ci := 12) (f := 65) rfl rfl (Or.inl rfl) (by rfl) ?_
  refine pG_many 2 (pc1 := 148) (L1 := [some (.ref 211), some (.int x1), d2, some (.int x3), some (.int x4), some (.int x5), d6, d7, d8, d9]) (st1 := [.int ((Z110.1 211 65) - 1), .ref 243]) (M1 := mjTo Z110) rfl ?_
  have hk111 : mjIn ((Z110.1 211 65) - 1) 800 = true := by
    by_cases q9 : mjIn ((Z110.1 211 65) - 1) 800 = true
    · exact q9
    · rw [if_neg q9] at h; cases h
  rw [if_pos hk111] at h
  refine pG_lal rfl (by rfl) hk111 ?_
  refine pG_many 2 (pc1 := 152) (L1 := [some (.ref 211), some (.int x1), d2, some (.int x3), some (.int x4), some (.int x5), some (.long (Z110.2.1 243 (mjIx ((Z110.1 211 65) - 1)))), none, d8, d9]) (st1 := [.ref 211]) (M1 := mjTo Z110) rfl ?_
  refine pG_getR (ci := 12) (f := 61) (b := 243) rfl rfl rfl (by rfl) rfl ?_
  refine pG_many 1 (pc1 := 156) (L1 := [some (.ref 211), some (.int x1), d2, some (.int x3), some (.int x4), some (.int x5), some (.long (Z110.2.1 243 (mjIx ((Z110.1 211 65) - 1)))), none, d8, d9]) (st1 := [.ref 211, .ref 243]) (M1 := mjTo Z110) rfl ?_
  refine pG_getI (ci := 12) (f := 65) rfl rfl (Or.inl rfl) (by rfl) ?_
  have hk112 : mjIn (Z110.1 211 65) 800 = true := by
    by_cases q9 : mjIn (Z110.1 211 65) 800 = true
    · exact q9
    · rw [if_neg q9] at h; cases h
  rw [if_pos hk112] at h
  refine pG_lal rfl (by rfl) hk112 ?_
  refine pG_many 2 (pc1 := 163) (L1 := [some (.ref 211), some (.int x1), d2, some (.int x3), some (.int x4), some (.int x5), some (.long (Z110.2.1 243 (mjIx ((Z110.1 211 65) - 1)))), none, some (.long (Z110.2.1 243 (mjIx (Z110.1 211 65)))), none]) (st1 := [.ref 211]) (M1 := mjTo Z110) rfl ?_
  refine pG_getR (ci := 12) (f := 61) (b := 243) rfl rfl rfl (by rfl) rfl ?_
  refine pG_many 1 (pc1 := 167) (L1 := [some (.ref 211), some (.int x1), d2, some (.int x3), some (.int x4), some (.int x5), some (.long (Z110.2.1 243 (mjIx ((Z110.1 211 65) - 1)))), none, some (.long (Z110.2.1 243 (mjIx (Z110.1 211 65)))), none]) (st1 := [.ref 211, .ref 243]) (M1 := mjTo Z110) rfl ?_
  refine pG_getI (ci := 12) (f := 65) rfl rfl (Or.inl rfl) (by rfl) ?_
  refine pG_many 5 (pc1 := 177) (L1 := [some (.ref 211), some (.int x1), d2, some (.int x3), some (.int x4), some (.int x5), some (.long (Z110.2.1 243 (mjIx ((Z110.1 211 65) - 1)))), none, some (.long (Z110.2.1 243 (mjIx (Z110.1 211 65)))), none]) (st1 := [.int 21, .int x5, .ref 211, .int ((Z110.1 211 65) - 1), .ref 243]) (M1 := mjTo Z110) rfl ?_
  by_cases hc113 : mjCmp .ne x5 21 = true
  · rw [if_pos hc113] at h
    refine pG_cmt (t := 188) rfl rfl hc113 ?_
    refine pG_many 2 (pc1 := 192) (L1 := [some (.ref 211), some (.int x1), d2, some (.int x3), some (.int x4), some (.int x5), some (.long (Z110.2.1 243 (mjIx ((Z110.1 211 65) - 1)))), none, some (.long (Z110.2.1 243 (mjIx (Z110.1 211 65)))), none]) (st1 := [.int 22, .int x5, .ref 211, .int ((Z110.1 211 65) - 1), .ref 243]) (M1 := mjTo Z110) rfl ?_
    by_cases hc114 : mjCmp .ne x5 22 = true
    · rw [if_pos hc114] at h
      refine pG_cmt (t := 203) rfl rfl hc114 ?_
      refine pG_many 3 (pc1 := 208) (L1 := [some (.ref 211), some (.int x1), d2, some (.int x3), some (.int x4), some (.int x5), some (.long (Z110.2.1 243 (mjIx ((Z110.1 211 65) - 1)))), none, some (.long (Z110.2.1 243 (mjIx (Z110.1 211 65)))), none]) (st1 := [.long ((Z110.2.1 243 (mjIx ((Z110.1 211 65) - 1))) * (Z110.2.1 243 (mjIx (Z110.1 211 65)))), .ref 211, .int ((Z110.1 211 65) - 1), .ref 243]) (M1 := mjTo Z110) rfl ?_
      cases hq115 : f285_kept ((Z110.2.1 243 (mjIx ((Z110.1 211 65) - 1))) * (Z110.2.1 243 (mjIx (Z110.1 211 65)))) Z110 with
      | none => rw [hq115] at h; cases h
      | some w =>
        obtain ⟨v116, Z117⟩ := w
        rw [hq115, mjBd_some] at h
        refine pG_callV (k2 := 285) (As := [.ref 211, .long ((Z110.2.1 243 (mjIx ((Z110.1 211 65) - 1))) * (Z110.2.1 243 (mjIx (Z110.1 211 65))))]) (rest := [.int ((Z110.1 211 65) - 1), .ref 243]) rfl rfl rfl rfl rfl (by rfl) (by decide) (f285_kept_ok hq115) ?_
        rintro r9 M9 ⟨rfl, rfl⟩
        show pG 288 211 [some (.ref 211), some (.int x1), d2, some (.int x3), some (.int x4), some (.int x5), some (.long (Z110.2.1 243 (mjIx ((Z110.1 211 65) - 1)))), none, some (.long (Z110.2.1 243 (mjIx (Z110.1 211 65)))), none] [.long v116, .int ((Z110.1 211 65) - 1), .ref 243] (mjTo Z117) _
        refine pG_las rfl (by rfl) hk111 (?_ : pG 288 212 [some (.ref 211), some (.int x1), d2, some (.int x3), some (.int x4), some (.int x5), some (.long (Z110.2.1 243 (mjIx ((Z110.1 211 65) - 1)))), none, some (.long (Z110.2.1 243 (mjIx (Z110.1 211 65)))), none] [] (mjTo (zSl Z117 243 (mjIx ((Z110.1 211 65) - 1)) v116)) _)
        rw [mjLet] at h
        generalize zSl Z117 243 (mjIx ((Z110.1 211 65) - 1)) v116 = Z118 at h ⊢
        refine pG_many 3 (pc1 := 18) (L1 := [some (.ref 211), some (.int x1), d2, some (.int x3), some (.int (x4 + 1)), some (.int x5), some (.long (Z110.2.1 243 (mjIx ((Z110.1 211 65) - 1)))), none, some (.long (Z110.2.1 243 (mjIx (Z110.1 211 65)))), none]) (st1 := []) (M1 := mjTo Z118) rfl ?_
        exact hR x1 x3 (x4 + 1) d2 (some (.int x5)) (some (.long (Z110.2.1 243 (mjIx ((Z110.1 211 65) - 1))))) none (some (.long (Z110.2.1 243 (mjIx (Z110.1 211 65))))) none Z118 v9 Z9 h
    · rw [if_neg hc114] at h
      refine pG_cmf (t := 203) rfl rfl hc114 ?_
      refine pG_many 4 (pc1 := 208) (L1 := [some (.ref 211), some (.int x1), d2, some (.int x3), some (.int x4), some (.int x5), some (.long (Z110.2.1 243 (mjIx ((Z110.1 211 65) - 1)))), none, some (.long (Z110.2.1 243 (mjIx (Z110.1 211 65)))), none]) (st1 := [.long ((Z110.2.1 243 (mjIx ((Z110.1 211 65) - 1))) - (Z110.2.1 243 (mjIx (Z110.1 211 65)))), .ref 211, .int ((Z110.1 211 65) - 1), .ref 243]) (M1 := mjTo Z110) rfl ?_
      cases hq119 : f285_kept ((Z110.2.1 243 (mjIx ((Z110.1 211 65) - 1))) - (Z110.2.1 243 (mjIx (Z110.1 211 65)))) Z110 with
      | none => rw [hq119] at h; cases h
      | some w =>
        obtain ⟨v120, Z121⟩ := w
        rw [hq119, mjBd_some] at h
        refine pG_callV (k2 := 285) (As := [.ref 211, .long ((Z110.2.1 243 (mjIx ((Z110.1 211 65) - 1))) - (Z110.2.1 243 (mjIx (Z110.1 211 65))))]) (rest := [.int ((Z110.1 211 65) - 1), .ref 243]) rfl rfl rfl rfl rfl (by rfl) (by decide) (f285_kept_ok hq119) ?_
        rintro r9 M9 ⟨rfl, rfl⟩
        show pG 288 211 [some (.ref 211), some (.int x1), d2, some (.int x3), some (.int x4), some (.int x5), some (.long (Z110.2.1 243 (mjIx ((Z110.1 211 65) - 1)))), none, some (.long (Z110.2.1 243 (mjIx (Z110.1 211 65)))), none] [.long v120, .int ((Z110.1 211 65) - 1), .ref 243] (mjTo Z121) _
        refine pG_las rfl (by rfl) hk111 (?_ : pG 288 212 [some (.ref 211), some (.int x1), d2, some (.int x3), some (.int x4), some (.int x5), some (.long (Z110.2.1 243 (mjIx ((Z110.1 211 65) - 1)))), none, some (.long (Z110.2.1 243 (mjIx (Z110.1 211 65)))), none] [] (mjTo (zSl Z121 243 (mjIx ((Z110.1 211 65) - 1)) v120)) _)
        rw [mjLet] at h
        generalize zSl Z121 243 (mjIx ((Z110.1 211 65) - 1)) v120 = Z122 at h ⊢
        refine pG_many 3 (pc1 := 18) (L1 := [some (.ref 211), some (.int x1), d2, some (.int x3), some (.int (x4 + 1)), some (.int x5), some (.long (Z110.2.1 243 (mjIx ((Z110.1 211 65) - 1)))), none, some (.long (Z110.2.1 243 (mjIx (Z110.1 211 65)))), none]) (st1 := []) (M1 := mjTo Z122) rfl ?_
        exact hR x1 x3 (x4 + 1) d2 (some (.int x5)) (some (.long (Z110.2.1 243 (mjIx ((Z110.1 211 65) - 1))))) none (some (.long (Z110.2.1 243 (mjIx (Z110.1 211 65))))) none Z122 v9 Z9 h
  · rw [if_neg hc113] at h
    refine pG_cmf (t := 188) rfl rfl hc113 ?_
    refine pG_many 4 (pc1 := 208) (L1 := [some (.ref 211), some (.int x1), d2, some (.int x3), some (.int x4), some (.int x5), some (.long (Z110.2.1 243 (mjIx ((Z110.1 211 65) - 1)))), none, some (.long (Z110.2.1 243 (mjIx (Z110.1 211 65)))), none]) (st1 := [.long ((Z110.2.1 243 (mjIx ((Z110.1 211 65) - 1))) + (Z110.2.1 243 (mjIx (Z110.1 211 65)))), .ref 211, .int ((Z110.1 211 65) - 1), .ref 243]) (M1 := mjTo Z110) rfl ?_
    cases hq123 : f285_kept ((Z110.2.1 243 (mjIx ((Z110.1 211 65) - 1))) + (Z110.2.1 243 (mjIx (Z110.1 211 65)))) Z110 with
    | none => rw [hq123] at h; cases h
    | some w =>
      obtain ⟨v124, Z125⟩ := w
      rw [hq123, mjBd_some] at h
      refine pG_callV (k2 := 285) (As := [.ref 211, .long ((Z110.2.1 243 (mjIx ((Z110.1 211 65) - 1))) + (Z110.2.1 243 (mjIx (Z110.1 211 65))))]) (rest := [.int ((Z110.1 211 65) - 1), .ref 243]) rfl rfl rfl rfl rfl (by rfl) (by decide) (f285_kept_ok hq123) ?_
      rintro r9 M9 ⟨rfl, rfl⟩
      show pG 288 211 [some (.ref 211), some (.int x1), d2, some (.int x3), some (.int x4), some (.int x5), some (.long (Z110.2.1 243 (mjIx ((Z110.1 211 65) - 1)))), none, some (.long (Z110.2.1 243 (mjIx (Z110.1 211 65)))), none] [.long v124, .int ((Z110.1 211 65) - 1), .ref 243] (mjTo Z125) _
      refine pG_las rfl (by rfl) hk111 (?_ : pG 288 212 [some (.ref 211), some (.int x1), d2, some (.int x3), some (.int x4), some (.int x5), some (.long (Z110.2.1 243 (mjIx ((Z110.1 211 65) - 1)))), none, some (.long (Z110.2.1 243 (mjIx (Z110.1 211 65)))), none] [] (mjTo (zSl Z125 243 (mjIx ((Z110.1 211 65) - 1)) v124)) _)
      rw [mjLet] at h
      generalize zSl Z125 243 (mjIx ((Z110.1 211 65) - 1)) v124 = Z126 at h ⊢
      refine pG_many 3 (pc1 := 18) (L1 := [some (.ref 211), some (.int x1), d2, some (.int x3), some (.int (x4 + 1)), some (.int x5), some (.long (Z110.2.1 243 (mjIx ((Z110.1 211 65) - 1)))), none, some (.long (Z110.2.1 243 (mjIx (Z110.1 211 65)))), none]) (st1 := []) (M1 := mjTo Z126) rfl ?_
      exact hR x1 x3 (x4 + 1) d2 (some (.int x5)) (some (.long (Z110.2.1 243 (mjIx ((Z110.1 211 65) - 1))))) none (some (.long (Z110.2.1 243 (mjIx (Z110.1 211 65))))) none Z126 v9 Z9 h
def f288_worked_j263 (R : Int32 → Int32 → Int32 → mjZt → Option (Int32 × mjZt)) (x1 : Int32) (x3 : Int32) (x4 : Int32) (x5 : Int32) (Z : mjZt) : Option (Int32 × mjZt) :=
  if mjCmp .ne x5 42 = true then
    mjBd (f287_joins 0 Z) fun _ Z134 =>
    R x1 x3 (x4 + 1) Z134
  else
    mjBd (f287_joins 1 Z) fun _ Z137 =>
    R x1 x3 (x4 + 1) Z137
set_option maxRecDepth 4000 in
theorem f288_worked_j263_ok (R : Int32 → Int32 → Int32 → mjZt → Option (Int32 × mjZt)) (hR : ∀ (x1 : Int32) (x3 : Int32) (x4 : Int32) (d2 d5 d6 d7 d8 d9 : Option Value) (Z : mjZt) (v9 : Int32) (Z9 : mjZt), R x1 x3 x4 Z = some (v9, Z9) → pG 288 18 [some (.ref 211), some (.int x1), d2, some (.int x3), some (.int x4), d5, d6, d7, d8, d9] [] (mjTo Z) (fun r M1 => r = some (.int v9) ∧ M1 = mjTo Z9)) (x1 : Int32) (x3 : Int32) (x4 : Int32) (x5 : Int32) (d2 d6 d7 d8 d9 : Option Value) (Z : mjZt) (v9 : Int32) (Z9 : mjZt) (h : f288_worked_j263 R x1 x3 x4 x5 Z = some (v9, Z9)) : pG 288 263 [some (.ref 211), some (.int x1), d2, some (.int x3), some (.int x4), some (.int x5), d6, d7, d8, d9] [] (mjTo Z) (fun r M1 => r = some (.int v9) ∧ M1 = mjTo Z9) := by
  unfold f288_worked_j263 at h
  refine pG_many 3 (pc1 := 268) (L1 := [some (.ref 211), some (.int x1), d2, some (.int x3), some (.int x4), some (.int x5), d6, d7, d8, d9]) (st1 := [.int 42, .int x5, .ref 211]) (M1 := mjTo Z) rfl ?_
  by_cases hc131 : mjCmp .ne x5 42 = true
  · rw [if_pos hc131] at h
    refine pG_cmt (t := 275) rfl rfl hc131 ?_
    refine pG_many 1 (pc1 := 276) (L1 := [some (.ref 211), some (.int x1), d2, some (.int x3), some (.int x4), some (.int x5), d6, d7, d8, d9]) (st1 := [.int 0, .ref 211]) (M1 := mjTo Z) rfl ?_
    cases hq132 : f287_joins 0 Z with
    | none => rw [hq132] at h; cases h
    | some w =>
      obtain ⟨v133, Z134⟩ := w
      rw [hq132, mjBd_some] at h
      refine pG_callV (k2 := 287) (As := [.ref 211, .int 0]) (rest := []) rfl rfl rfl rfl rfl (by rfl) (by decide) (f287_joins_ok hq132) ?_
      rintro r9 M9 ⟨rfl, rfl⟩
      show pG 288 279 [some (.ref 211), some (.int x1), d2, some (.int x3), some (.int x4), some (.int x5), d6, d7, d8, d9] [] (mjTo Z134) _
      refine pG_many 3 (pc1 := 18) (L1 := [some (.ref 211), some (.int x1), d2, some (.int x3), some (.int (x4 + 1)), some (.int x5), d6, d7, d8, d9]) (st1 := []) (M1 := mjTo Z134) rfl ?_
      exact hR x1 x3 (x4 + 1) d2 (some (.int x5)) d6 d7 d8 d9 Z134 v9 Z9 h
  · rw [if_neg hc131] at h
    refine pG_cmf (t := 275) rfl rfl hc131 ?_
    refine pG_many 2 (pc1 := 276) (L1 := [some (.ref 211), some (.int x1), d2, some (.int x3), some (.int x4), some (.int x5), d6, d7, d8, d9]) (st1 := [.int 1, .ref 211]) (M1 := mjTo Z) rfl ?_
    cases hq135 : f287_joins 1 Z with
    | none => rw [hq135] at h; cases h
    | some w =>
      obtain ⟨v136, Z137⟩ := w
      rw [hq135, mjBd_some] at h
      refine pG_callV (k2 := 287) (As := [.ref 211, .int 1]) (rest := []) rfl rfl rfl rfl rfl (by rfl) (by decide) (f287_joins_ok hq135) ?_
      rintro r9 M9 ⟨rfl, rfl⟩
      show pG 288 279 [some (.ref 211), some (.int x1), d2, some (.int x3), some (.int x4), some (.int x5), d6, d7, d8, d9] [] (mjTo Z137) _
      refine pG_many 3 (pc1 := 18) (L1 := [some (.ref 211), some (.int x1), d2, some (.int x3), some (.int (x4 + 1)), some (.int x5), d6, d7, d8, d9]) (st1 := []) (M1 := mjTo Z137) rfl ?_
      exact hR x1 x3 (x4 + 1) d2 (some (.int x5)) d6 d7 d8 d9 Z137 v9 Z9 h
def f288_worked_h18 : Nat → Int32 → Int32 → Int32 → mjZt → Option (Int32 × mjZt)
  | 0, _, _, _, _ => none
  | n + 1, x1, x3, x4, Z =>
    if mjCmp .ge x4 x3 = true then
      if mjCmp .ne (lg_cmp (Z.2.1 243 0) 1) 0 = true then
        some (0, Z)
      else
        some (1, Z)
    else
      if mjIn x4 1500 = true then
      if mjCmp .lt (Z.1 216 (mjIx x4)) 100 = true then
        if mjCmp .gt (Z.1 216 (mjIx x4)) 11 = true then
          if mjCmp .eq (Z.1 216 (mjIx x4)) 21 = true then
            f288_worked_j128 (f288_worked_h18 n) x1 x3 x4 (Z.1 216 (mjIx x4)) Z
          else
            if mjCmp .eq (Z.1 216 (mjIx x4)) 22 = true then
              f288_worked_j128 (f288_worked_h18 n) x1 x3 x4 (Z.1 216 (mjIx x4)) Z
            else
              if mjCmp .ne (Z.1 216 (mjIx x4)) 23 = true then
                if mjCmp .ne (Z.1 216 (mjIx x4)) 40 = true then
                  if mjCmp .eq (Z.1 216 (mjIx x4)) 41 = true then
                    f288_worked_j263 (f288_worked_h18 n) x1 x3 x4 (Z.1 216 (mjIx x4)) Z
                  else
                    if mjCmp .ne (Z.1 216 (mjIx x4)) 42 = true then
                      mjBd (f286_compares (Z.1 216 (mjIx x4)) Z) fun _ Z141 =>
                      f288_worked_h18 n x1 x3 (x4 + 1) Z141
                    else
                      f288_worked_j263 (f288_worked_h18 n) x1 x3 x4 (Z.1 216 (mjIx x4)) Z
                else
                  if mjIn ((Z.1 211 65) - 1) 800 = true then
                  mjLet (zSl Z 243 (mjIx ((Z.1 211 65) - 1)) (1 - (Z.2.1 243 (mjIx ((Z.1 211 65) - 1))))) fun Z143 =>
                  f288_worked_h18 n x1 x3 (x4 + 1) Z143
                  else none
              else
                f288_worked_j128 (f288_worked_h18 n) x1 x3 x4 (Z.1 216 (mjIx x4)) Z
        else
          mjBp (f280_factOf x1 ((Z.1 216 (mjIx x4)) - 1) Z) fun v145 =>
          if mjIn (Z.1 211 65) 800 = true then
          mjLet (zSl Z 243 (mjIx (Z.1 211 65)) (Int32.toInt64 v145)) fun Z148 =>
          mjLet (zSi Z148 211 65 ((Z148.1 211 65) + 1)) fun Z149 =>
          f288_worked_h18 n x1 x3 (x4 + 1) Z149
          else none
      else
        if mjIn (Z.1 211 65) 800 = true then
        mjLet (zSl Z 243 (mjIx (Z.1 211 65)) (Int32.toInt64 ((Z.1 216 (mjIx x4)) - 100))) fun Z151 =>
        mjLet (zSi Z151 211 65 ((Z151.1 211 65) + 1)) fun Z152 =>
        f288_worked_h18 n x1 x3 (x4 + 1) Z152
        else none
      else none
set_option maxRecDepth 4000 in
theorem f288_worked_h18_ok : ∀ (n : Nat) (x1 : Int32) (x3 : Int32) (x4 : Int32) (d2 d5 d6 d7 d8 d9 : Option Value) (Z : mjZt) (v9 : Int32) (Z9 : mjZt), f288_worked_h18 n x1 x3 x4 Z = some (v9, Z9) → pG 288 18 [some (.ref 211), some (.int x1), d2, some (.int x3), some (.int x4), d5, d6, d7, d8, d9] [] (mjTo Z) (fun r M1 => r = some (.int v9) ∧ M1 = mjTo Z9)
  | 0, x1, x3, x4, d2, d5, d6, d7, d8, d9, Z, v9, Z9, h => by rw [f288_worked_h18] at h; cases h
  | n + 1, x1, x3, x4, d2, d5, d6, d7, d8, d9, Z, v9, Z9, h => by
      rw [f288_worked_h18] at h
      refine pG_many 2 (pc1 := 21) (L1 := [some (.ref 211), some (.int x1), d2, some (.int x3), some (.int x4), d5, d6, d7, d8, d9]) (st1 := [.int x3, .int x4]) (M1 := mjTo Z) rfl ?_
      by_cases hc104 : mjCmp .ge x4 x3 = true
      · rw [if_pos hc104] at h
        refine pG_cmt (t := 294) rfl rfl hc104 ?_
        refine pG_many 1 (pc1 := 295) (L1 := [some (.ref 211), some (.int x1), d2, some (.int x3), some (.int x4), d5, d6, d7, d8, d9]) (st1 := [.ref 211]) (M1 := mjTo Z) rfl ?_
        refine pG_getR (ci := 12) (f := 61) (b := 243) rfl rfl rfl (by rfl) rfl ?_
        refine pG_many 1 (pc1 := 299) (L1 := [some (.ref 211), some (.int x1), d2, some (.int x3), some (.int x4), d5, d6, d7, d8, d9]) (st1 := [.int 0, .ref 243]) (M1 := mjTo Z) rfl ?_
        refine pG_lal rfl (by rfl) (by decide) ?_
        refine pG_many 2 (pc1 := 302) (L1 := [some (.ref 211), some (.int x1), d2, some (.int x3), some (.int x4), d5, d6, d7, d8, d9]) (st1 := [.int (lg_cmp (Z.2.1 243 0) 1)]) (M1 := mjTo Z) rfl ?_
        by_cases hc105 : mjCmp .ne (lg_cmp (Z.2.1 243 0) 1) 0 = true
        · rw [if_pos hc105] at h
          refine pG_ift (t := 309) rfl rfl hc105 ?_
          refine pG_many 1 (pc1 := 310) (L1 := [some (.ref 211), some (.int x1), d2, some (.int x3), some (.int x4), d5, d6, d7, d8, d9]) (st1 := [.int 0]) (M1 := mjTo Z) rfl ?_
          simp only [Option.some.injEq, Prod.mk.injEq] at h
          obtain ⟨rfl, rfl⟩ := h
          exact pG_ret (r := some (.int 0)) rfl ⟨rfl, rfl⟩
        · rw [if_neg hc105] at h
          refine pG_iff (t := 309) rfl rfl hc105 ?_
          refine pG_many 2 (pc1 := 310) (L1 := [some (.ref 211), some (.int x1), d2, some (.int x3), some (.int x4), d5, d6, d7, d8, d9]) (st1 := [.int 1]) (M1 := mjTo Z) rfl ?_
          simp only [Option.some.injEq, Prod.mk.injEq] at h
          obtain ⟨rfl, rfl⟩ := h
          exact pG_ret (r := some (.int 1)) rfl ⟨rfl, rfl⟩
      · rw [if_neg hc104] at h
        refine pG_cmf (t := 294) rfl rfl hc104 ?_
        refine pG_many 1 (pc1 := 25) (L1 := [some (.ref 211), some (.int x1), d2, some (.int x3), some (.int x4), d5, d6, d7, d8, d9]) (st1 := [.ref 211]) (M1 := mjTo Z) rfl ?_
        refine pG_getR (ci := 12) (f := 15) (b := 216) rfl rfl rfl (by rfl) rfl ?_
        refine pG_many 1 (pc1 := 30) (L1 := [some (.ref 211), some (.int x1), d2, some (.int x3), some (.int x4), d5, d6, d7, d8, d9]) (st1 := [.int x4, .ref 216]) (M1 := mjTo Z) rfl ?_
        have hk106 : mjIn x4 1500 = true := by
          by_cases q9 : mjIn x4 1500 = true
          · exact q9
          · rw [if_neg q9] at h; cases h
        rw [if_pos hk106] at h
        refine pG_ial rfl (by rfl) hk106 ?_
        refine pG_many 3 (pc1 := 37) (L1 := [some (.ref 211), some (.int x1), d2, some (.int x3), some (.int x4), some (.int (Z.1 216 (mjIx x4))), d6, d7, d8, d9]) (st1 := [.int 100, .int (Z.1 216 (mjIx x4))]) (M1 := mjTo Z) rfl ?_
        by_cases hc107 : mjCmp .lt (Z.1 216 (mjIx x4)) 100 = true
        · rw [if_pos hc107] at h
          refine pG_cmt (t := 68) rfl rfl hc107 ?_
          refine pG_many 2 (pc1 := 72) (L1 := [some (.ref 211), some (.int x1), d2, some (.int x3), some (.int x4), some (.int (Z.1 216 (mjIx x4))), d6, d7, d8, d9]) (st1 := [.int 11, .int (Z.1 216 (mjIx x4))]) (M1 := mjTo Z) rfl ?_
          by_cases hc108 : mjCmp .gt (Z.1 216 (mjIx x4)) 11 = true
          · rw [if_pos hc108] at h
            refine pG_cmt (t := 107) rfl rfl hc108 ?_
            refine pG_many 2 (pc1 := 111) (L1 := [some (.ref 211), some (.int x1), d2, some (.int x3), some (.int x4), some (.int (Z.1 216 (mjIx x4))), d6, d7, d8, d9]) (st1 := [.int 21, .int (Z.1 216 (mjIx x4))]) (M1 := mjTo Z) rfl ?_
            by_cases hc109 : mjCmp .eq (Z.1 216 (mjIx x4)) 21 = true
            · rw [if_pos hc109] at h
              refine pG_cmt (t := 128) rfl rfl hc109 ?_
              exact f288_worked_j128_ok (f288_worked_h18 n) (fun x1 x3 x4 d2 d5 d6 d7 d8 d9 Z v9 Z9 h => f288_worked_h18_ok n x1 x3 x4 d2 d5 d6 d7 d8 d9 Z v9 Z9 h) x1 x3 x4 (Z.1 216 (mjIx x4)) d2 d6 d7 d8 d9 Z v9 Z9 h
            · rw [if_neg hc109] at h
              refine pG_cmf (t := 128) rfl rfl hc109 ?_
              refine pG_many 2 (pc1 := 118) (L1 := [some (.ref 211), some (.int x1), d2, some (.int x3), some (.int x4), some (.int (Z.1 216 (mjIx x4))), d6, d7, d8, d9]) (st1 := [.int 22, .int (Z.1 216 (mjIx x4))]) (M1 := mjTo Z) rfl ?_
              by_cases hc127 : mjCmp .eq (Z.1 216 (mjIx x4)) 22 = true
              · rw [if_pos hc127] at h
                refine pG_cmt (t := 128) rfl rfl hc127 ?_
                exact f288_worked_j128_ok (f288_worked_h18 n) (fun x1 x3 x4 d2 d5 d6 d7 d8 d9 Z v9 Z9 h => f288_worked_h18_ok n x1 x3 x4 d2 d5 d6 d7 d8 d9 Z v9 Z9 h) x1 x3 x4 (Z.1 216 (mjIx x4)) d2 d6 d7 d8 d9 Z v9 Z9 h
              · rw [if_neg hc127] at h
                refine pG_cmf (t := 128) rfl rfl hc127 ?_
                refine pG_many 2 (pc1 := 125) (L1 := [some (.ref 211), some (.int x1), d2, some (.int x3), some (.int x4), some (.int (Z.1 216 (mjIx x4))), d6, d7, d8, d9]) (st1 := [.int 23, .int (Z.1 216 (mjIx x4))]) (M1 := mjTo Z) rfl ?_
                by_cases hc128 : mjCmp .ne (Z.1 216 (mjIx x4)) 23 = true
                · rw [if_pos hc128] at h
                  refine pG_cmt (t := 215) rfl rfl hc128 ?_
                  refine pG_many 2 (pc1 := 219) (L1 := [some (.ref 211), some (.int x1), d2, some (.int x3), some (.int x4), some (.int (Z.1 216 (mjIx x4))), d6, d7, d8, d9]) (st1 := [.int 40, .int (Z.1 216 (mjIx x4))]) (M1 := mjTo Z) rfl ?_
                  by_cases hc129 : mjCmp .ne (Z.1 216 (mjIx x4)) 40 = true
                  · rw [if_pos hc129] at h
                    refine pG_cmt (t := 249) rfl rfl hc129 ?_
                    refine pG_many 2 (pc1 := 253) (L1 := [some (.ref 211), some (.int x1), d2, some (.int x3), some (.int x4), some (.int (Z.1 216 (mjIx x4))), d6, d7, d8, d9]) (st1 := [.int 41, .int (Z.1 216 (mjIx x4))]) (M1 := mjTo Z) rfl ?_
                    by_cases hc130 : mjCmp .eq (Z.1 216 (mjIx x4)) 41 = true
                    · rw [if_pos hc130] at h
                      refine pG_cmt (t := 263) rfl rfl hc130 ?_
                      exact f288_worked_j263_ok (f288_worked_h18 n) (fun x1 x3 x4 d2 d5 d6 d7 d8 d9 Z v9 Z9 h => f288_worked_h18_ok n x1 x3 x4 d2 d5 d6 d7 d8 d9 Z v9 Z9 h) x1 x3 x4 (Z.1 216 (mjIx x4)) d2 d6 d7 d8 d9 Z v9 Z9 h
                    · rw [if_neg hc130] at h
                      refine pG_cmf (t := 263) rfl rfl hc130 ?_
                      refine pG_many 2 (pc1 := 260) (L1 := [some (.ref 211), some (.int x1), d2, some (.int x3), some (.int x4), some (.int (Z.1 216 (mjIx x4))), d6, d7, d8, d9]) (st1 := [.int 42, .int (Z.1 216 (mjIx x4))]) (M1 := mjTo Z) rfl ?_
                      by_cases hc138 : mjCmp .ne (Z.1 216 (mjIx x4)) 42 = true
                      · rw [if_pos hc138] at h
                        refine pG_cmt (t := 282) rfl rfl hc138 ?_
                        refine pG_many 2 (pc1 := 285) (L1 := [some (.ref 211), some (.int x1), d2, some (.int x3), some (.int x4), some (.int (Z.1 216 (mjIx x4))), d6, d7, d8, d9]) (st1 := [.int (Z.1 216 (mjIx x4)), .ref 211]) (M1 := mjTo Z) rfl ?_
                        cases hq139 : f286_compares (Z.1 216 (mjIx x4)) Z with
                        | none => rw [hq139] at h; cases h
                        | some w =>
                          obtain ⟨v140, Z141⟩ := w
                          rw [hq139, mjBd_some] at h
                          refine pG_callV (k2 := 286) (As := [.ref 211, .int (Z.1 216 (mjIx x4))]) (rest := []) rfl rfl rfl rfl rfl (by rfl) (by decide) (f286_compares_ok hq139) ?_
                          rintro r9 M9 ⟨rfl, rfl⟩
                          show pG 288 288 [some (.ref 211), some (.int x1), d2, some (.int x3), some (.int x4), some (.int (Z.1 216 (mjIx x4))), d6, d7, d8, d9] [] (mjTo Z141) _
                          refine pG_many 2 (pc1 := 18) (L1 := [some (.ref 211), some (.int x1), d2, some (.int x3), some (.int (x4 + 1)), some (.int (Z.1 216 (mjIx x4))), d6, d7, d8, d9]) (st1 := []) (M1 := mjTo Z141) rfl ?_
                          exact f288_worked_h18_ok n x1 x3 (x4 + 1) d2 (some (.int (Z.1 216 (mjIx x4)))) d6 d7 d8 d9 Z141 v9 Z9 h
                      · rw [if_neg hc138] at h
                        refine pG_cmf (t := 282) rfl rfl hc138 ?_
                        exact f288_worked_j263_ok (f288_worked_h18 n) (fun x1 x3 x4 d2 d5 d6 d7 d8 d9 Z v9 Z9 h => f288_worked_h18_ok n x1 x3 x4 d2 d5 d6 d7 d8 d9 Z v9 Z9 h) x1 x3 x4 (Z.1 216 (mjIx x4)) d2 d6 d7 d8 d9 Z v9 Z9 h
                  · rw [if_neg hc129] at h
                    refine pG_cmf (t := 249) rfl rfl hc129 ?_
                    refine pG_many 1 (pc1 := 223) (L1 := [some (.ref 211), some (.int x1), d2, some (.int x3), some (.int x4), some (.int (Z.1 216 (mjIx x4))), d6, d7, d8, d9]) (st1 := [.ref 211]) (M1 := mjTo Z) rfl ?_
                    refine pG_getR (ci := 12) (f := 61) (b := 243) rfl rfl rfl (by rfl) rfl ?_
                    refine pG_many 1 (pc1 := 227) (L1 := [some (.ref 211), some (.int x1), d2, some (.int x3), some (.int x4), some (.int (Z.1 216 (mjIx x4))), d6, d7, d8, d9]) (st1 := [.ref 211, .ref 243]) (M1 := mjTo Z) rfl ?_
                    refine pG_getI (ci := 12) (f := 65) rfl rfl (Or.inl rfl) (by rfl) ?_
                    refine pG_many 4 (pc1 := 234) (L1 := [some (.ref 211), some (.int x1), d2, some (.int x3), some (.int x4), some (.int (Z.1 216 (mjIx x4))), d6, d7, d8, d9]) (st1 := [.ref 211, .long 1, .int ((Z.1 211 65) - 1), .ref 243]) (M1 := mjTo Z) rfl ?_
                    refine pG_getR (ci := 12) (f := 61) (b := 243) rfl rfl rfl (by rfl) rfl ?_
                    refine pG_many 1 (pc1 := 238) (L1 := [some (.ref 211), some (.int x1), d2, some (.int x3), some (.int x4), some (.int (Z.1 216 (mjIx x4))), d6, d7, d8, d9]) (st1 := [.ref 211, .ref 243, .long 1, .int ((Z.1 211 65) - 1), .ref 243]) (M1 := mjTo Z) rfl ?_
                    refine pG_getI (ci := 12) (f := 65) rfl rfl (Or.inl rfl) (by rfl) ?_
                    refine pG_many 2 (pc1 := 243) (L1 := [some (.ref 211), some (.int x1), d2, some (.int x3), some (.int x4), some (.int (Z.1 216 (mjIx x4))), d6, d7, d8, d9]) (st1 := [.int ((Z.1 211 65) - 1), .ref 243, .long 1, .int ((Z.1 211 65) - 1), .ref 243]) (M1 := mjTo Z) rfl ?_
                    have hk142 : mjIn ((Z.1 211 65) - 1) 800 = true := by
                      by_cases q9 : mjIn ((Z.1 211 65) - 1) 800 = true
                      · exact q9
                      · rw [if_neg q9] at h; cases h
                    rw [if_pos hk142] at h
                    refine pG_lal rfl (by rfl) hk142 ?_
                    refine pG_many 1 (pc1 := 245) (L1 := [some (.ref 211), some (.int x1), d2, some (.int x3), some (.int x4), some (.int (Z.1 216 (mjIx x4))), d6, d7, d8, d9]) (st1 := [.long (1 - (Z.2.1 243 (mjIx ((Z.1 211 65) - 1)))), .int ((Z.1 211 65) - 1), .ref 243]) (M1 := mjTo Z) rfl ?_
                    refine pG_las rfl (by rfl) hk142 (?_ : pG 288 246 [some (.ref 211), some (.int x1), d2, some (.int x3), some (.int x4), some (.int (Z.1 216 (mjIx x4))), d6, d7, d8, d9] [] (mjTo (zSl Z 243 (mjIx ((Z.1 211 65) - 1)) (1 - (Z.2.1 243 (mjIx ((Z.1 211 65) - 1)))))) _)
                    rw [mjLet] at h
                    generalize zSl Z 243 (mjIx ((Z.1 211 65) - 1)) (1 - (Z.2.1 243 (mjIx ((Z.1 211 65) - 1)))) = Z143 at h ⊢
                    refine pG_many 3 (pc1 := 18) (L1 := [some (.ref 211), some (.int x1), d2, some (.int x3), some (.int (x4 + 1)), some (.int (Z.1 216 (mjIx x4))), d6, d7, d8, d9]) (st1 := []) (M1 := mjTo Z143) rfl ?_
                    exact f288_worked_h18_ok n x1 x3 (x4 + 1) d2 (some (.int (Z.1 216 (mjIx x4)))) d6 d7 d8 d9 Z143 v9 Z9 h
                · rw [if_neg hc128] at h
                  refine pG_cmf (t := 215) rfl rfl hc128 ?_
                  exact f288_worked_j128_ok (f288_worked_h18 n) (fun x1 x3 x4 d2 d5 d6 d7 d8 d9 Z v9 Z9 h => f288_worked_h18_ok n x1 x3 x4 d2 d5 d6 d7 d8 d9 Z v9 Z9 h) x1 x3 x4 (Z.1 216 (mjIx x4)) d2 d6 d7 d8 d9 Z v9 Z9 h
          · rw [if_neg hc108] at h
            refine pG_cmf (t := 107) rfl rfl hc108 ?_
            refine pG_many 1 (pc1 := 76) (L1 := [some (.ref 211), some (.int x1), d2, some (.int x3), some (.int x4), some (.int (Z.1 216 (mjIx x4))), d6, d7, d8, d9]) (st1 := [.ref 211]) (M1 := mjTo Z) rfl ?_
            refine pG_getR (ci := 12) (f := 61) (b := 243) rfl rfl rfl (by rfl) rfl ?_
            refine pG_many 1 (pc1 := 80) (L1 := [some (.ref 211), some (.int x1), d2, some (.int x3), some (.int x4), some (.int (Z.1 216 (mjIx x4))), d6, d7, d8, d9]) (st1 := [.ref 211, .ref 243]) (M1 := mjTo Z) rfl ?_
            refine pG_getI (ci := 12) (f := 65) rfl rfl (Or.inl rfl) (by rfl) ?_
            refine pG_many 5 (pc1 := 89) (L1 := [some (.ref 211), some (.int x1), d2, some (.int x3), some (.int x4), some (.int (Z.1 216 (mjIx x4))), d6, d7, d8, d9]) (st1 := [.int ((Z.1 216 (mjIx x4)) - 1), .int x1, .ref 211, .int (Z.1 211 65), .ref 243]) (M1 := mjTo Z) rfl ?_
            cases hq144 : f280_factOf x1 ((Z.1 216 (mjIx x4)) - 1) Z with
            | none => rw [hq144] at h; cases h
            | some v145 =>
              rw [hq144, mjBp_some] at h
              refine pG_callV (k2 := 280) (As := [.ref 211, .int x1, .int ((Z.1 216 (mjIx x4)) - 1)]) (rest := [.int (Z.1 211 65), .ref 243]) rfl rfl rfl rfl rfl (by rfl) (by decide) (f280_factOf_ok hq144) ?_
              rintro r9 M9 ⟨rfl, rfl⟩
              show pG 288 92 [some (.ref 211), some (.int x1), d2, some (.int x3), some (.int x4), some (.int (Z.1 216 (mjIx x4))), d6, d7, d8, d9] [.int v145, .int (Z.1 211 65), .ref 243] (mjTo Z) _
              refine pG_many 1 (pc1 := 93) (L1 := [some (.ref 211), some (.int x1), d2, some (.int x3), some (.int x4), some (.int (Z.1 216 (mjIx x4))), d6, d7, d8, d9]) (st1 := [.long (Int32.toInt64 v145), .int (Z.1 211 65), .ref 243]) (M1 := mjTo Z) rfl ?_
              have hk147 : mjIn (Z.1 211 65) 800 = true := by
                by_cases q9 : mjIn (Z.1 211 65) 800 = true
                · exact q9
                · rw [if_neg q9] at h; cases h
              rw [if_pos hk147] at h
              refine pG_las rfl (by rfl) hk147 (?_ : pG 288 94 [some (.ref 211), some (.int x1), d2, some (.int x3), some (.int x4), some (.int (Z.1 216 (mjIx x4))), d6, d7, d8, d9] [] (mjTo (zSl Z 243 (mjIx (Z.1 211 65)) (Int32.toInt64 v145))) _)
              rw [mjLet] at h
              generalize zSl Z 243 (mjIx (Z.1 211 65)) (Int32.toInt64 v145) = Z148 at h ⊢
              refine pG_many 2 (pc1 := 96) (L1 := [some (.ref 211), some (.int x1), d2, some (.int x3), some (.int x4), some (.int (Z.1 216 (mjIx x4))), d6, d7, d8, d9]) (st1 := [.ref 211, .ref 211]) (M1 := mjTo Z148) rfl ?_
              refine pG_getI (ci := 12) (f := 65) rfl rfl (Or.inl rfl) (by rfl) ?_
              refine pG_many 2 (pc1 := 101) (L1 := [some (.ref 211), some (.int x1), d2, some (.int x3), some (.int x4), some (.int (Z.1 216 (mjIx x4))), d6, d7, d8, d9]) (st1 := [.int ((Z148.1 211 65) + 1), .ref 211]) (M1 := mjTo Z148) rfl ?_
              refine pG_putI (ci := 12) (f := 65) rfl rfl rfl rfl (by rfl) ?_
              rw [mjLet] at h
              generalize zSi Z148 211 65 ((Z148.1 211 65) + 1) = Z149 at h ⊢
              refine pG_many 3 (pc1 := 18) (L1 := [some (.ref 211), some (.int x1), d2, some (.int x3), some (.int (x4 + 1)), some (.int (Z.1 216 (mjIx x4))), d6, d7, d8, d9]) (st1 := []) (M1 := mjTo Z149) rfl ?_
              exact f288_worked_h18_ok n x1 x3 (x4 + 1) d2 (some (.int (Z.1 216 (mjIx x4)))) d6 d7 d8 d9 Z149 v9 Z9 h
        · rw [if_neg hc107] at h
          refine pG_cmf (t := 68) rfl rfl hc107 ?_
          refine pG_many 1 (pc1 := 41) (L1 := [some (.ref 211), some (.int x1), d2, some (.int x3), some (.int x4), some (.int (Z.1 216 (mjIx x4))), d6, d7, d8, d9]) (st1 := [.ref 211]) (M1 := mjTo Z) rfl ?_
          refine pG_getR (ci := 12) (f := 61) (b := 243) rfl rfl rfl (by rfl) rfl ?_
          refine pG_many 1 (pc1 := 45) (L1 := [some (.ref 211), some (.int x1), d2, some (.int x3), some (.int x4), some (.int (Z.1 216 (mjIx x4))), d6, d7, d8, d9]) (st1 := [.ref 211, .ref 243]) (M1 := mjTo Z) rfl ?_
          refine pG_getI (ci := 12) (f := 65) rfl rfl (Or.inl rfl) (by rfl) ?_
          refine pG_many 4 (pc1 := 54) (L1 := [some (.ref 211), some (.int x1), d2, some (.int x3), some (.int x4), some (.int (Z.1 216 (mjIx x4))), d6, d7, d8, d9]) (st1 := [.long (Int32.toInt64 ((Z.1 216 (mjIx x4)) - 100)), .int (Z.1 211 65), .ref 243]) (M1 := mjTo Z) rfl ?_
          have hk150 : mjIn (Z.1 211 65) 800 = true := by
            by_cases q9 : mjIn (Z.1 211 65) 800 = true
            · exact q9
            · rw [if_neg q9] at h; cases h
          rw [if_pos hk150] at h
          refine pG_las rfl (by rfl) hk150 (?_ : pG 288 55 [some (.ref 211), some (.int x1), d2, some (.int x3), some (.int x4), some (.int (Z.1 216 (mjIx x4))), d6, d7, d8, d9] [] (mjTo (zSl Z 243 (mjIx (Z.1 211 65)) (Int32.toInt64 ((Z.1 216 (mjIx x4)) - 100)))) _)
          rw [mjLet] at h
          generalize zSl Z 243 (mjIx (Z.1 211 65)) (Int32.toInt64 ((Z.1 216 (mjIx x4)) - 100)) = Z151 at h ⊢
          refine pG_many 2 (pc1 := 57) (L1 := [some (.ref 211), some (.int x1), d2, some (.int x3), some (.int x4), some (.int (Z.1 216 (mjIx x4))), d6, d7, d8, d9]) (st1 := [.ref 211, .ref 211]) (M1 := mjTo Z151) rfl ?_
          refine pG_getI (ci := 12) (f := 65) rfl rfl (Or.inl rfl) (by rfl) ?_
          refine pG_many 2 (pc1 := 62) (L1 := [some (.ref 211), some (.int x1), d2, some (.int x3), some (.int x4), some (.int (Z.1 216 (mjIx x4))), d6, d7, d8, d9]) (st1 := [.int ((Z151.1 211 65) + 1), .ref 211]) (M1 := mjTo Z151) rfl ?_
          refine pG_putI (ci := 12) (f := 65) rfl rfl rfl rfl (by rfl) ?_
          rw [mjLet] at h
          generalize zSi Z151 211 65 ((Z151.1 211 65) + 1) = Z152 at h ⊢
          refine pG_many 3 (pc1 := 18) (L1 := [some (.ref 211), some (.int x1), d2, some (.int x3), some (.int (x4 + 1)), some (.int (Z.1 216 (mjIx x4))), d6, d7, d8, d9]) (st1 := []) (M1 := mjTo Z152) rfl ?_
          exact f288_worked_h18_ok n x1 x3 (x4 + 1) d2 (some (.int (Z.1 216 (mjIx x4)))) d6 d7 d8 d9 Z152 v9 Z9 h
def f288_worked (p0 : Int32) (p1 : Int32) (p2 : Int32) (Z : mjZt) : Option (Int32 × mjZt) :=
  mjLet (zSi Z 211 65 0) fun Z101 =>
  mjLet (zSi Z101 211 66 0) fun Z102 =>
  mjLet (zSi Z102 211 67 0) fun Z103 =>
  f288_worked_h18 mjF p0 p2 p1 Z103
set_option maxRecDepth 4000 in
theorem f288_worked_ok {p0 : Int32} {p1 : Int32} {p2 : Int32} {Z : mjZt} {v9 : Int32} {Z9 : mjZt} (h : f288_worked p0 p1 p2 Z = some (v9, Z9)) : pG 288 0 (mjEnt [.ref 211, .int p0, .int p1, .int p2] (mjML 288)) [] (mjTo Z) (fun r M1 => r = some (.int v9) ∧ M1 = mjTo Z9) := by
  unfold f288_worked at h
  show pG 288 0 [some (.ref 211), some (.int p0), some (.int p1), some (.int p2), none, none, none, none, none, none] [] (mjTo Z) _
  refine pG_many 2 (pc1 := 2) (L1 := [some (.ref 211), some (.int p0), some (.int p1), some (.int p2), none, none, none, none, none, none]) (st1 := [.int 0, .ref 211]) (M1 := mjTo Z) rfl ?_
  refine pG_putI (ci := 12) (f := 65) rfl rfl rfl rfl (by rfl) ?_
  rw [mjLet] at h
  generalize zSi Z 211 65 0 = Z101 at h ⊢
  refine pG_many 2 (pc1 := 7) (L1 := [some (.ref 211), some (.int p0), some (.int p1), some (.int p2), none, none, none, none, none, none]) (st1 := [.int 0, .ref 211]) (M1 := mjTo Z101) rfl ?_
  refine pG_putI (ci := 12) (f := 66) rfl rfl rfl rfl (by rfl) ?_
  rw [mjLet] at h
  generalize zSi Z101 211 66 0 = Z102 at h ⊢
  refine pG_many 2 (pc1 := 12) (L1 := [some (.ref 211), some (.int p0), some (.int p1), some (.int p2), none, none, none, none, none, none]) (st1 := [.int 0, .ref 211]) (M1 := mjTo Z102) rfl ?_
  refine pG_putZ (ci := 12) (f := 67) rfl rfl rfl rfl (by rfl) (Or.inl rfl) ?_
  rw [mjLet] at h
  generalize zSi Z102 211 67 0 = Z103 at h ⊢
  refine pG_many 2 (pc1 := 18) (L1 := [some (.ref 211), some (.int p0), some (.int p1), some (.int p2), some (.int p1), none, none, none, none, none]) (st1 := []) (M1 := mjTo Z103) rfl ?_
  exact f288_worked_h18_ok mjF p0 p2 p1 (some (.int p1)) none none none none none Z103 v9 Z9 h
def f289_hasExcuse (p0 : Int32) (Z : mjZt) : Option Int32 :=
  if mjIn ((4 * p0) + 3) 32 = true then
  if mjIn ((4 * p0) + 2) 32 = true then
  if mjCmp .le (Z.1 236 (mjIx ((4 * p0) + 3))) (Z.1 236 (mjIx ((4 * p0) + 2))) = true then
    some 0
  else
    some 1
  else none
  else none
set_option maxRecDepth 4000 in
theorem f289_hasExcuse_ok {p0 : Int32} {Z : mjZt} {v9 : Int32} (h : f289_hasExcuse p0 Z = some v9) : pG 289 0 (mjEnt [.ref 211, .int p0] (mjML 289)) [] (mjTo Z) (fun r M1 => r = some (.int v9) ∧ M1 = mjTo Z) := by
  unfold f289_hasExcuse at h
  show pG 289 0 [some (.ref 211), some (.int p0)] [] (mjTo Z) _
  refine pG_many 1 (pc1 := 1) (L1 := [some (.ref 211), some (.int p0)]) (st1 := [.ref 211]) (M1 := mjTo Z) rfl ?_
  refine pG_getR (ci := 12) (f := 51) (b := 236) rfl rfl rfl (by rfl) rfl ?_
  refine pG_many 5 (pc1 := 9) (L1 := [some (.ref 211), some (.int p0)]) (st1 := [.int ((4 * p0) + 3), .ref 236]) (M1 := mjTo Z) rfl ?_
  have hk101 : mjIn ((4 * p0) + 3) 32 = true := by
    by_cases q9 : mjIn ((4 * p0) + 3) 32 = true
    · exact q9
    · rw [if_neg q9] at h; cases h
  rw [if_pos hk101] at h
  refine pG_ial rfl (by rfl) hk101 ?_
  refine pG_many 1 (pc1 := 11) (L1 := [some (.ref 211), some (.int p0)]) (st1 := [.ref 211, .int (Z.1 236 (mjIx ((4 * p0) + 3)))]) (M1 := mjTo Z) rfl ?_
  refine pG_getR (ci := 12) (f := 51) (b := 236) rfl rfl rfl (by rfl) rfl ?_
  refine pG_many 5 (pc1 := 19) (L1 := [some (.ref 211), some (.int p0)]) (st1 := [.int ((4 * p0) + 2), .ref 236, .int (Z.1 236 (mjIx ((4 * p0) + 3)))]) (M1 := mjTo Z) rfl ?_
  have hk102 : mjIn ((4 * p0) + 2) 32 = true := by
    by_cases q9 : mjIn ((4 * p0) + 2) 32 = true
    · exact q9
    · rw [if_neg q9] at h; cases h
  rw [if_pos hk102] at h
  refine pG_ial rfl (by rfl) hk102 ?_
  by_cases hc103 : mjCmp .le (Z.1 236 (mjIx ((4 * p0) + 3))) (Z.1 236 (mjIx ((4 * p0) + 2))) = true
  · rw [if_pos hc103] at h
    refine pG_cmt (t := 27) rfl rfl hc103 ?_
    refine pG_many 1 (pc1 := 28) (L1 := [some (.ref 211), some (.int p0)]) (st1 := [.int 0]) (M1 := mjTo Z) rfl ?_
    simp only [Option.some.injEq] at h
    subst h
    exact pG_ret (r := some (.int 0)) rfl ⟨rfl, rfl⟩
  · rw [if_neg hc103] at h
    refine pG_cmf (t := 27) rfl rfl hc103 ?_
    refine pG_many 2 (pc1 := 28) (L1 := [some (.ref 211), some (.int p0)]) (st1 := [.int 1]) (M1 := mjTo Z) rfl ?_
    simp only [Option.some.injEq] at h
    subst h
    exact pG_ret (r := some (.int 1)) rfl ⟨rfl, rfl⟩
def f290_holdsPart (p0 : Int32) (p1 : Int32) (p2 : Int32) (Z : mjZt) : Option (Int32 × mjZt) :=
  if mjIn ((4 * p0) + (2 * p1)) 32 = true then
  if mjIn (((4 * p0) + (2 * p1)) + 1) 32 = true then
  mjBd (f288_worked p2 (Z.1 236 (mjIx ((4 * p0) + (2 * p1)))) (Z.1 236 (mjIx (((4 * p0) + (2 * p1)) + 1))) Z) fun v104 Z105 =>
  if v104 = 0 ∨ v104 = 1 then
  some (v104, Z105)
  else none
  else none
  else none
set_option maxRecDepth 4000 in
theorem f290_holdsPart_ok {p0 : Int32} {p1 : Int32} {p2 : Int32} {Z : mjZt} {v9 : Int32} {Z9 : mjZt} (h : f290_holdsPart p0 p1 p2 Z = some (v9, Z9)) : pG 290 0 (mjEnt [.ref 211, .int p0, .int p1, .int p2] (mjML 290)) [] (mjTo Z) (fun r M1 => r = some (.int v9) ∧ M1 = mjTo Z9) := by
  unfold f290_holdsPart at h
  show pG 290 0 [some (.ref 211), some (.int p0), some (.int p1), some (.int p2)] [] (mjTo Z) _
  refine pG_many 3 (pc1 := 3) (L1 := [some (.ref 211), some (.int p0), some (.int p1), some (.int p2)]) (st1 := [.ref 211, .int p2, .ref 211]) (M1 := mjTo Z) rfl ?_
  refine pG_getR (ci := 12) (f := 51) (b := 236) rfl rfl rfl (by rfl) rfl ?_
  refine pG_many 7 (pc1 := 13) (L1 := [some (.ref 211), some (.int p0), some (.int p1), some (.int p2)]) (st1 := [.int ((4 * p0) + (2 * p1)), .ref 236, .int p2, .ref 211]) (M1 := mjTo Z) rfl ?_
  have hk101 : mjIn ((4 * p0) + (2 * p1)) 32 = true := by
    by_cases q9 : mjIn ((4 * p0) + (2 * p1)) 32 = true
    · exact q9
    · rw [if_neg q9] at h; cases h
  rw [if_pos hk101] at h
  refine pG_ial rfl (by rfl) hk101 ?_
  refine pG_many 1 (pc1 := 15) (L1 := [some (.ref 211), some (.int p0), some (.int p1), some (.int p2)]) (st1 := [.ref 211, .int (Z.1 236 (mjIx ((4 * p0) + (2 * p1)))), .int p2, .ref 211]) (M1 := mjTo Z) rfl ?_
  refine pG_getR (ci := 12) (f := 51) (b := 236) rfl rfl rfl (by rfl) rfl ?_
  refine pG_many 9 (pc1 := 27) (L1 := [some (.ref 211), some (.int p0), some (.int p1), some (.int p2)]) (st1 := [.int (((4 * p0) + (2 * p1)) + 1), .ref 236, .int (Z.1 236 (mjIx ((4 * p0) + (2 * p1)))), .int p2, .ref 211]) (M1 := mjTo Z) rfl ?_
  have hk102 : mjIn (((4 * p0) + (2 * p1)) + 1) 32 = true := by
    by_cases q9 : mjIn (((4 * p0) + (2 * p1)) + 1) 32 = true
    · exact q9
    · rw [if_neg q9] at h; cases h
  rw [if_pos hk102] at h
  refine pG_ial rfl (by rfl) hk102 ?_
  cases hq103 : f288_worked p2 (Z.1 236 (mjIx ((4 * p0) + (2 * p1)))) (Z.1 236 (mjIx (((4 * p0) + (2 * p1)) + 1))) Z with
  | none => rw [hq103] at h; cases h
  | some w =>
    obtain ⟨v104, Z105⟩ := w
    rw [hq103, mjBd_some] at h
    refine pG_callV (k2 := 288) (As := [.ref 211, .int p2, .int (Z.1 236 (mjIx ((4 * p0) + (2 * p1)))), .int (Z.1 236 (mjIx (((4 * p0) + (2 * p1)) + 1)))]) (rest := []) rfl rfl rfl rfl rfl (by rfl) (by decide) (f288_worked_ok hq103) ?_
    rintro r9 M9 ⟨rfl, rfl⟩
    show pG 290 31 [some (.ref 211), some (.int p0), some (.int p1), some (.int p2)] [.int v104] (mjTo Z105) _
    have hk106 : v104 = 0 ∨ v104 = 1 := by
      by_cases q9 : v104 = 0 ∨ v104 = 1
      · exact q9
      · rw [if_neg q9] at h; cases h
    rw [if_pos hk106] at h
    simp only [Option.some.injEq, Prod.mk.injEq] at h
    obtain ⟨rfl, rfl⟩ := h
    exact pG_ret (r := some (.int v104)) (mjRt1_z rfl rfl hk106) ⟨rfl, rfl⟩
def f291_isRule (p0 : Int32) (Z : mjZt) : Option Int32 :=
  mjBp (f195_isIn (Int32.toInt64 p0) 0 (Int32.toInt64 ((Z.1 211 41) - 1)) Z) fun v102 =>
  if v102 = 0 ∨ v102 = 1 then
  some v102
  else none
set_option maxRecDepth 4000 in
theorem f291_isRule_ok {p0 : Int32} {Z : mjZt} {v9 : Int32} (h : f291_isRule p0 Z = some v9) : pG 291 0 (mjEnt [.ref 211, .int p0] (mjML 291)) [] (mjTo Z) (fun r M1 => r = some (.int v9) ∧ M1 = mjTo Z) := by
  unfold f291_isRule at h
  show pG 291 0 [some (.ref 211), some (.int p0)] [] (mjTo Z) _
  refine pG_many 4 (pc1 := 4) (L1 := [some (.ref 211), some (.int p0)]) (st1 := [.ref 211, .long 0, .long (Int32.toInt64 p0)]) (M1 := mjTo Z) rfl ?_
  refine pG_getI (ci := 12) (f := 41) rfl rfl (Or.inl rfl) (by rfl) ?_
  refine pG_many 3 (pc1 := 10) (L1 := [some (.ref 211), some (.int p0)]) (st1 := [.long (Int32.toInt64 ((Z.1 211 41) - 1)), .long 0, .long (Int32.toInt64 p0)]) (M1 := mjTo Z) rfl ?_
  cases hq101 : f195_isIn (Int32.toInt64 p0) 0 (Int32.toInt64 ((Z.1 211 41) - 1)) Z with
  | none => rw [hq101] at h; cases h
  | some v102 =>
    rw [hq101, mjBp_some] at h
    refine pG_call (k2 := 195) (As := [.long (Int32.toInt64 p0), .long 0, .long (Int32.toInt64 ((Z.1 211 41) - 1))]) (rest := []) rfl (by decide) (f195_isIn_ok hq101) ?_
    rintro r9 M9 ⟨rfl, rfl⟩
    show pG 291 13 [some (.ref 211), some (.int p0)] [.int v102] (mjTo Z) _
    have hk104 : v102 = 0 ∨ v102 = 1 := by
      by_cases q9 : v102 = 0 ∨ v102 = 1
      · exact q9
      · rw [if_neg q9] at h; cases h
    rw [if_pos hk104] at h
    simp only [Option.some.injEq] at h
    subst h
    exact pG_ret (r := some (.int v102)) (mjRt1_z rfl rfl hk104) ⟨rfl, rfl⟩
def f292_isAsked (p0 : Int32) (p1 : Int32) (p2 : Int32) (Z : mjZt) : Option Int32 :=
  mjBp (f291_isRule p0 Z) fun v102 =>
  if mjCmp .eq v102 0 = true then
    some 0
  else
    mjBp (f270_isAct p2 Z) fun v106 =>
    if mjCmp .eq v106 0 = true then
      some 0
    else
      if mjCmp .eq p1 0 = true then
        some 1
      else
        if mjCmp .ne p1 1 = true then
          some 0
        else
          mjBp (f289_hasExcuse p0 Z) fun v112 =>
          if mjCmp .eq v112 0 = true then
            some 0
          else
            some 1
set_option maxRecDepth 4000 in
theorem f292_isAsked_ok {p0 : Int32} {p1 : Int32} {p2 : Int32} {Z : mjZt} {v9 : Int32} (h : f292_isAsked p0 p1 p2 Z = some v9) : pG 292 0 (mjEnt [.ref 211, .int p0, .int p1, .int p2] (mjML 292)) [] (mjTo Z) (fun r M1 => r = some (.int v9) ∧ M1 = mjTo Z) := by
  unfold f292_isAsked at h
  show pG 292 0 [some (.ref 211), some (.int p0), some (.int p1), some (.int p2)] [] (mjTo Z) _
  refine pG_many 2 (pc1 := 2) (L1 := [some (.ref 211), some (.int p0), some (.int p1), some (.int p2)]) (st1 := [.int p0, .ref 211]) (M1 := mjTo Z) rfl ?_
  cases hq101 : f291_isRule p0 Z with
  | none => rw [hq101] at h; cases h
  | some v102 =>
    rw [hq101, mjBp_some] at h
    refine pG_callV (k2 := 291) (As := [.ref 211, .int p0]) (rest := []) rfl rfl rfl rfl rfl (by rfl) (by decide) (f291_isRule_ok hq101) ?_
    rintro r9 M9 ⟨rfl, rfl⟩
    show pG 292 5 [some (.ref 211), some (.int p0), some (.int p1), some (.int p2)] [.int v102] (mjTo Z) _
    by_cases hc104 : mjCmp .eq v102 0 = true
    · rw [if_pos hc104] at h
      refine pG_ift (t := 37) rfl rfl hc104 ?_
      refine pG_many 1 (pc1 := 38) (L1 := [some (.ref 211), some (.int p0), some (.int p1), some (.int p2)]) (st1 := [.int 0]) (M1 := mjTo Z) rfl ?_
      simp only [Option.some.injEq] at h
      subst h
      exact pG_ret (r := some (.int 0)) rfl ⟨rfl, rfl⟩
    · rw [if_neg hc104] at h
      refine pG_iff (t := 37) rfl rfl hc104 ?_
      refine pG_many 2 (pc1 := 10) (L1 := [some (.ref 211), some (.int p0), some (.int p1), some (.int p2)]) (st1 := [.int p2, .ref 211]) (M1 := mjTo Z) rfl ?_
      cases hq105 : f270_isAct p2 Z with
      | none => rw [hq105] at h; cases h
      | some v106 =>
        rw [hq105, mjBp_some] at h
        refine pG_callV (k2 := 270) (As := [.ref 211, .int p2]) (rest := []) rfl rfl rfl rfl rfl (by rfl) (by decide) (f270_isAct_ok hq105) ?_
        rintro r9 M9 ⟨rfl, rfl⟩
        show pG 292 13 [some (.ref 211), some (.int p0), some (.int p1), some (.int p2)] [.int v106] (mjTo Z) _
        by_cases hc108 : mjCmp .eq v106 0 = true
        · rw [if_pos hc108] at h
          refine pG_ift (t := 37) rfl rfl hc108 ?_
          refine pG_many 1 (pc1 := 38) (L1 := [some (.ref 211), some (.int p0), some (.int p1), some (.int p2)]) (st1 := [.int 0]) (M1 := mjTo Z) rfl ?_
          simp only [Option.some.injEq] at h
          subst h
          exact pG_ret (r := some (.int 0)) rfl ⟨rfl, rfl⟩
        · rw [if_neg hc108] at h
          refine pG_iff (t := 37) rfl rfl hc108 ?_
          refine pG_many 1 (pc1 := 17) (L1 := [some (.ref 211), some (.int p0), some (.int p1), some (.int p2)]) (st1 := [.int p1]) (M1 := mjTo Z) rfl ?_
          by_cases hc109 : mjCmp .eq p1 0 = true
          · rw [if_pos hc109] at h
            refine pG_ift (t := 33) rfl rfl hc109 ?_
            refine pG_many 2 (pc1 := 38) (L1 := [some (.ref 211), some (.int p0), some (.int p1), some (.int p2)]) (st1 := [.int 1]) (M1 := mjTo Z) rfl ?_
            simp only [Option.some.injEq] at h
            subst h
            exact pG_ret (r := some (.int 1)) rfl ⟨rfl, rfl⟩
          · rw [if_neg hc109] at h
            refine pG_iff (t := 33) rfl rfl hc109 ?_
            refine pG_many 2 (pc1 := 22) (L1 := [some (.ref 211), some (.int p0), some (.int p1), some (.int p2)]) (st1 := [.int 1, .int p1]) (M1 := mjTo Z) rfl ?_
            by_cases hc110 : mjCmp .ne p1 1 = true
            · rw [if_pos hc110] at h
              refine pG_cmt (t := 37) rfl rfl hc110 ?_
              refine pG_many 1 (pc1 := 38) (L1 := [some (.ref 211), some (.int p0), some (.int p1), some (.int p2)]) (st1 := [.int 0]) (M1 := mjTo Z) rfl ?_
              simp only [Option.some.injEq] at h
              subst h
              exact pG_ret (r := some (.int 0)) rfl ⟨rfl, rfl⟩
            · rw [if_neg hc110] at h
              refine pG_cmf (t := 37) rfl rfl hc110 ?_
              refine pG_many 2 (pc1 := 27) (L1 := [some (.ref 211), some (.int p0), some (.int p1), some (.int p2)]) (st1 := [.int p0, .ref 211]) (M1 := mjTo Z) rfl ?_
              cases hq111 : f289_hasExcuse p0 Z with
              | none => rw [hq111] at h; cases h
              | some v112 =>
                rw [hq111, mjBp_some] at h
                refine pG_callV (k2 := 289) (As := [.ref 211, .int p0]) (rest := []) rfl rfl rfl rfl rfl (by rfl) (by decide) (f289_hasExcuse_ok hq111) ?_
                rintro r9 M9 ⟨rfl, rfl⟩
                show pG 292 30 [some (.ref 211), some (.int p0), some (.int p1), some (.int p2)] [.int v112] (mjTo Z) _
                by_cases hc114 : mjCmp .eq v112 0 = true
                · rw [if_pos hc114] at h
                  refine pG_ift (t := 37) rfl rfl hc114 ?_
                  refine pG_many 1 (pc1 := 38) (L1 := [some (.ref 211), some (.int p0), some (.int p1), some (.int p2)]) (st1 := [.int 0]) (M1 := mjTo Z) rfl ?_
                  simp only [Option.some.injEq] at h
                  subst h
                  exact pG_ret (r := some (.int 0)) rfl ⟨rfl, rfl⟩
                · rw [if_neg hc114] at h
                  refine pG_iff (t := 37) rfl rfl hc114 ?_
                  refine pG_many 2 (pc1 := 38) (L1 := [some (.ref 211), some (.int p0), some (.int p1), some (.int p2)]) (st1 := [.int 1]) (M1 := mjTo Z) rfl ?_
                  simp only [Option.some.injEq] at h
                  subst h
                  exact pG_ret (r := some (.int 1)) rfl ⟨rfl, rfl⟩
def f293_rule_h68 : Nat → Int32 → Int32 → Int32 → Int32 → mjZt → Option Int32
  | 0, _, _, _, _, _ => none
  | n + 1, x1, x2, x3, x4, Z =>
    if mjIn (((4 * x1) + (2 * x2)) - 1) 32 = true then
    if mjCmp .ge x4 (Z.1 236 (mjIx (((4 * x1) + (2 * x2)) - 1))) = true then
      some x3
    else
      if mjIn x4 1500 = true then
      mjBp (f195_isIn (Int32.toInt64 (Z.1 216 (mjIx x4))) 30 32 Z) fun v116 =>
      mjBp (f196_truth v116 Z) fun v119 =>
      f293_rule_h68 n x1 x2 (x3 + v119) (x4 + 1) Z
      else none
    else none
set_option maxRecDepth 4000 in
theorem f293_rule_h68_ok : ∀ (n : Nat) (x1 : Int32) (x2 : Int32) (x3 : Int32) (x4 : Int32) (Z : mjZt) (v9 : Int32), f293_rule_h68 n x1 x2 x3 x4 Z = some v9 → pG 293 68 [some (.ref 211), some (.int x1), some (.int x2), some (.int x3), some (.int x4)] [] (mjTo Z) (fun r M1 => r = some (.int v9) ∧ M1 = mjTo Z)
  | 0, x1, x2, x3, x4, Z, v9, h => by rw [f293_rule_h68] at h; cases h
  | n + 1, x1, x2, x3, x4, Z, v9, h => by
      rw [f293_rule_h68] at h
      refine pG_many 2 (pc1 := 71) (L1 := [some (.ref 211), some (.int x1), some (.int x2), some (.int x3), some (.int x4)]) (st1 := [.ref 211, .int x4]) (M1 := mjTo Z) rfl ?_
      refine pG_getR (ci := 12) (f := 51) (b := 236) rfl rfl rfl (by rfl) rfl ?_
      refine pG_many 9 (pc1 := 83) (L1 := [some (.ref 211), some (.int x1), some (.int x2), some (.int x3), some (.int x4)]) (st1 := [.int (((4 * x1) + (2 * x2)) - 1), .ref 236, .int x4]) (M1 := mjTo Z) rfl ?_
      have hk112 : mjIn (((4 * x1) + (2 * x2)) - 1) 32 = true := by
        by_cases q9 : mjIn (((4 * x1) + (2 * x2)) - 1) 32 = true
        · exact q9
        · rw [if_neg q9] at h; cases h
      rw [if_pos hk112] at h
      refine pG_ial rfl (by rfl) hk112 ?_
      by_cases hc113 : mjCmp .ge x4 (Z.1 236 (mjIx (((4 * x1) + (2 * x2)) - 1))) = true
      · rw [if_pos hc113] at h
        refine pG_cmt (t := 116) rfl rfl hc113 ?_
        refine pG_many 1 (pc1 := 117) (L1 := [some (.ref 211), some (.int x1), some (.int x2), some (.int x3), some (.int x4)]) (st1 := [.int x3]) (M1 := mjTo Z) rfl ?_
        simp only [Option.some.injEq] at h
        subst h
        exact pG_ret (r := some (.int x3)) rfl ⟨rfl, rfl⟩
      · rw [if_neg hc113] at h
        refine pG_cmf (t := 116) rfl rfl hc113 ?_
        refine pG_many 2 (pc1 := 89) (L1 := [some (.ref 211), some (.int x1), some (.int x2), some (.int x3), some (.int x4)]) (st1 := [.ref 211, .int x3]) (M1 := mjTo Z) rfl ?_
        refine pG_getR (ci := 12) (f := 15) (b := 216) rfl rfl rfl (by rfl) rfl ?_
        refine pG_many 1 (pc1 := 94) (L1 := [some (.ref 211), some (.int x1), some (.int x2), some (.int x3), some (.int x4)]) (st1 := [.int x4, .ref 216, .int x3]) (M1 := mjTo Z) rfl ?_
        have hk114 : mjIn x4 1500 = true := by
          by_cases q9 : mjIn x4 1500 = true
          · exact q9
          · rw [if_neg q9] at h; cases h
        rw [if_pos hk114] at h
        refine pG_ial rfl (by rfl) hk114 ?_
        refine pG_many 3 (pc1 := 102) (L1 := [some (.ref 211), some (.int x1), some (.int x2), some (.int x3), some (.int x4)]) (st1 := [.long 32, .long 30, .long (Int32.toInt64 (Z.1 216 (mjIx x4))), .int x3]) (M1 := mjTo Z) rfl ?_
        cases hq115 : f195_isIn (Int32.toInt64 (Z.1 216 (mjIx x4))) 30 32 Z with
        | none => rw [hq115] at h; cases h
        | some v116 =>
          rw [hq115, mjBp_some] at h
          refine pG_call (k2 := 195) (As := [.long (Int32.toInt64 (Z.1 216 (mjIx x4))), .long 30, .long 32]) (rest := [.int x3]) rfl (by decide) (f195_isIn_ok hq115) ?_
          rintro r9 M9 ⟨rfl, rfl⟩
          show pG 293 105 [some (.ref 211), some (.int x1), some (.int x2), some (.int x3), some (.int x4)] [.int v116, .int x3] (mjTo Z) _
          cases hq118 : f196_truth v116 Z with
          | none => rw [hq118] at h; cases h
          | some v119 =>
            rw [hq118, mjBp_some] at h
            refine pG_call (k2 := 196) (As := [.int v116]) (rest := [.int x3]) rfl (by decide) (f196_truth_ok hq118) ?_
            rintro r9 M9 ⟨rfl, rfl⟩
            show pG 293 108 [some (.ref 211), some (.int x1), some (.int x2), some (.int x3), some (.int x4)] [.int v119, .int x3] (mjTo Z) _
            refine pG_many 4 (pc1 := 68) (L1 := [some (.ref 211), some (.int x1), some (.int x2), some (.int (x3 + v119)), some (.int (x4 + 1))]) (st1 := []) (M1 := mjTo Z) rfl ?_
            exact f293_rule_h68_ok n x1 x2 (x3 + v119) (x4 + 1) Z v9 h
def f293_rule_j50 (x1 : Int32) (x2 : Int32) (Z : mjZt) : Option Int32 :=
  if mjIn (((4 * x1) + (2 * x2)) - 2) 32 = true then
  f293_rule_h68 mjF x1 x2 0 (Z.1 236 (mjIx (((4 * x1) + (2 * x2)) - 2))) Z
  else none
set_option maxRecDepth 4000 in
theorem f293_rule_j50_ok (x1 : Int32) (x2 : Int32) (d3 d4 : Option Value) (Z : mjZt) (v9 : Int32) (h : f293_rule_j50 x1 x2 Z = some v9) : pG 293 50 [some (.ref 211), some (.int x1), some (.int x2), d3, d4] [] (mjTo Z) (fun r M1 => r = some (.int v9) ∧ M1 = mjTo Z) := by
  unfold f293_rule_j50 at h
  refine pG_many 3 (pc1 := 53) (L1 := [some (.ref 211), some (.int x1), some (.int x2), some (.int 0), d4]) (st1 := [.ref 211]) (M1 := mjTo Z) rfl ?_
  refine pG_getR (ci := 12) (f := 51) (b := 236) rfl rfl rfl (by rfl) rfl ?_
  refine pG_many 9 (pc1 := 65) (L1 := [some (.ref 211), some (.int x1), some (.int x2), some (.int 0), d4]) (st1 := [.int (((4 * x1) + (2 * x2)) - 2), .ref 236]) (M1 := mjTo Z) rfl ?_
  have hk111 : mjIn (((4 * x1) + (2 * x2)) - 2) 32 = true := by
    by_cases q9 : mjIn (((4 * x1) + (2 * x2)) - 2) 32 = true
    · exact q9
    · rw [if_neg q9] at h; cases h
  rw [if_pos hk111] at h
  refine pG_ial rfl (by rfl) hk111 ?_
  refine pG_many 1 (pc1 := 68) (L1 := [some (.ref 211), some (.int x1), some (.int x2), some (.int 0), some (.int (Z.1 236 (mjIx (((4 * x1) + (2 * x2)) - 2))))]) (st1 := []) (M1 := mjTo Z) rfl ?_
  exact f293_rule_h68_ok mjF x1 x2 0 (Z.1 236 (mjIx (((4 * x1) + (2 * x2)) - 2))) Z v9 h
def f293_rule (p0 : Int32) (p1 : Int32) (Z : mjZt) : Option Int32 :=
  mjBp (f291_isRule p0 Z) fun v102 =>
  if mjCmp .eq v102 0 = true then
    some ((-2000000))
  else
    mjBp (f195_isIn (Int32.toInt64 p1) 0 2 Z) fun v106 =>
    if mjCmp .ne v106 0 = true then
      if mjCmp .ne p1 0 = true then
        if mjCmp .ne p1 2 = true then
          f293_rule_j50 p0 p1 Z
        else
          mjBp (f289_hasExcuse p0 Z) fun v122 =>
          if mjCmp .ne v122 0 = true then
            f293_rule_j50 p0 p1 Z
          else
            some ((-1))
      else
        if mjIn p0 8 = true then
        some (Z.1 235 (mjIx p0))
        else none
    else
      some ((-2000000))
set_option maxRecDepth 4000 in
theorem f293_rule_ok {p0 : Int32} {p1 : Int32} {Z : mjZt} {v9 : Int32} (h : f293_rule p0 p1 Z = some v9) : pG 293 0 (mjEnt [.ref 211, .int p0, .int p1] (mjML 293)) [] (mjTo Z) (fun r M1 => r = some (.int v9) ∧ M1 = mjTo Z) := by
  unfold f293_rule at h
  show pG 293 0 [some (.ref 211), some (.int p0), some (.int p1), none, none] [] (mjTo Z) _
  refine pG_many 2 (pc1 := 2) (L1 := [some (.ref 211), some (.int p0), some (.int p1), none, none]) (st1 := [.int p0, .ref 211]) (M1 := mjTo Z) rfl ?_
  cases hq101 : f291_isRule p0 Z with
  | none => rw [hq101] at h; cases h
  | some v102 =>
    rw [hq101, mjBp_some] at h
    refine pG_callV (k2 := 291) (As := [.ref 211, .int p0]) (rest := []) rfl rfl rfl rfl rfl (by rfl) (by decide) (f291_isRule_ok hq101) ?_
    rintro r9 M9 ⟨rfl, rfl⟩
    show pG 293 5 [some (.ref 211), some (.int p0), some (.int p1), none, none] [.int v102] (mjTo Z) _
    by_cases hc104 : mjCmp .eq v102 0 = true
    · rw [if_pos hc104] at h
      refine pG_ift (t := 20) rfl rfl hc104 ?_
      refine pG_many 1 (pc1 := 23) (L1 := [some (.ref 211), some (.int p0), some (.int p1), none, none]) (st1 := [.int ((-2000000))]) (M1 := mjTo Z) rfl ?_
      simp only [Option.some.injEq] at h
      subst h
      exact pG_ret (r := some (.int ((-2000000)))) rfl ⟨rfl, rfl⟩
    · rw [if_neg hc104] at h
      refine pG_iff (t := 20) rfl rfl hc104 ?_
      refine pG_many 4 (pc1 := 14) (L1 := [some (.ref 211), some (.int p0), some (.int p1), none, none]) (st1 := [.long 2, .long 0, .long (Int32.toInt64 p1)]) (M1 := mjTo Z) rfl ?_
      cases hq105 : f195_isIn (Int32.toInt64 p1) 0 2 Z with
      | none => rw [hq105] at h; cases h
      | some v106 =>
        rw [hq105, mjBp_some] at h
        refine pG_call (k2 := 195) (As := [.long (Int32.toInt64 p1), .long 0, .long 2]) (rest := []) rfl (by decide) (f195_isIn_ok hq105) ?_
        rintro r9 M9 ⟨rfl, rfl⟩
        show pG 293 17 [some (.ref 211), some (.int p0), some (.int p1), none, none] [.int v106] (mjTo Z) _
        by_cases hc108 : mjCmp .ne v106 0 = true
        · rw [if_pos hc108] at h
          refine pG_ift (t := 24) rfl rfl hc108 ?_
          refine pG_many 1 (pc1 := 25) (L1 := [some (.ref 211), some (.int p0), some (.int p1), none, none]) (st1 := [.int p1]) (M1 := mjTo Z) rfl ?_
          by_cases hc109 : mjCmp .ne p1 0 = true
          · rw [if_pos hc109] at h
            refine pG_ift (t := 35) rfl rfl hc109 ?_
            refine pG_many 2 (pc1 := 37) (L1 := [some (.ref 211), some (.int p0), some (.int p1), none, none]) (st1 := [.int 2, .int p1]) (M1 := mjTo Z) rfl ?_
            by_cases hc110 : mjCmp .ne p1 2 = true
            · rw [if_pos hc110] at h
              refine pG_cmt (t := 50) rfl rfl hc110 ?_
              exact f293_rule_j50_ok p0 p1 none none Z v9 h
            · rw [if_neg hc110] at h
              refine pG_cmf (t := 50) rfl rfl hc110 ?_
              refine pG_many 2 (pc1 := 42) (L1 := [some (.ref 211), some (.int p0), some (.int p1), none, none]) (st1 := [.int p0, .ref 211]) (M1 := mjTo Z) rfl ?_
              cases hq121 : f289_hasExcuse p0 Z with
              | none => rw [hq121] at h; cases h
              | some v122 =>
                rw [hq121, mjBp_some] at h
                refine pG_callV (k2 := 289) (As := [.ref 211, .int p0]) (rest := []) rfl rfl rfl rfl rfl (by rfl) (by decide) (f289_hasExcuse_ok hq121) ?_
                rintro r9 M9 ⟨rfl, rfl⟩
                show pG 293 45 [some (.ref 211), some (.int p0), some (.int p1), none, none] [.int v122] (mjTo Z) _
                by_cases hc124 : mjCmp .ne v122 0 = true
                · rw [if_pos hc124] at h
                  refine pG_ift (t := 50) rfl rfl hc124 ?_
                  exact f293_rule_j50_ok p0 p1 none none Z v9 h
                · rw [if_neg hc124] at h
                  refine pG_iff (t := 50) rfl rfl hc124 ?_
                  refine pG_many 1 (pc1 := 49) (L1 := [some (.ref 211), some (.int p0), some (.int p1), none, none]) (st1 := [.int ((-1))]) (M1 := mjTo Z) rfl ?_
                  simp only [Option.some.injEq] at h
                  subst h
                  exact pG_ret (r := some (.int ((-1)))) rfl ⟨rfl, rfl⟩
          · rw [if_neg hc109] at h
            refine pG_iff (t := 35) rfl rfl hc109 ?_
            refine pG_many 1 (pc1 := 29) (L1 := [some (.ref 211), some (.int p0), some (.int p1), none, none]) (st1 := [.ref 211]) (M1 := mjTo Z) rfl ?_
            refine pG_getR (ci := 12) (f := 50) (b := 235) rfl rfl rfl (by rfl) rfl ?_
            refine pG_many 1 (pc1 := 33) (L1 := [some (.ref 211), some (.int p0), some (.int p1), none, none]) (st1 := [.int p0, .ref 235]) (M1 := mjTo Z) rfl ?_
            have hk125 : mjIn p0 8 = true := by
              by_cases q9 : mjIn p0 8 = true
              · exact q9
              · rw [if_neg q9] at h; cases h
            rw [if_pos hk125] at h
            refine pG_ial rfl (by rfl) hk125 ?_
            simp only [Option.some.injEq] at h
            subst h
            exact pG_ret (r := some (.int (Z.1 235 (mjIx p0)))) rfl ⟨rfl, rfl⟩
        · rw [if_neg hc108] at h
          refine pG_iff (t := 24) rfl rfl hc108 ?_
          refine pG_many 1 (pc1 := 23) (L1 := [some (.ref 211), some (.int p0), some (.int p1), none, none]) (st1 := [.int ((-2000000))]) (M1 := mjTo Z) rfl ?_
          simp only [Option.some.injEq] at h
          subst h
          exact pG_ret (r := some (.int ((-2000000)))) rfl ⟨rfl, rfl⟩
def f294_holds (p0 : Int32) (p1 : Int32) (p2 : Int32) (Z : mjZt) : Option (Int32 × mjZt) :=
  mjBp (f292_isAsked p0 p1 p2 Z) fun v102 =>
  if mjCmp .eq v102 0 = true then
    some ((-2000000), Z)
  else
    mjBd (f290_holdsPart p0 p1 p2 Z) fun v106 Z107 =>
    mjBp (f196_truth v106 Z107) fun v109 =>
    some (v109, Z107)
set_option maxRecDepth 4000 in
theorem f294_holds_ok {p0 : Int32} {p1 : Int32} {p2 : Int32} {Z : mjZt} {v9 : Int32} {Z9 : mjZt} (h : f294_holds p0 p1 p2 Z = some (v9, Z9)) : pG 294 0 (mjEnt [.ref 211, .int p0, .int p1, .int p2] (mjML 294)) [] (mjTo Z) (fun r M1 => r = some (.int v9) ∧ M1 = mjTo Z9) := by
  unfold f294_holds at h
  show pG 294 0 [some (.ref 211), some (.int p0), some (.int p1), some (.int p2)] [] (mjTo Z) _
  refine pG_many 4 (pc1 := 4) (L1 := [some (.ref 211), some (.int p0), some (.int p1), some (.int p2)]) (st1 := [.int p2, .int p1, .int p0, .ref 211]) (M1 := mjTo Z) rfl ?_
  cases hq101 : f292_isAsked p0 p1 p2 Z with
  | none => rw [hq101] at h; cases h
  | some v102 =>
    rw [hq101, mjBp_some] at h
    refine pG_callV (k2 := 292) (As := [.ref 211, .int p0, .int p1, .int p2]) (rest := []) rfl rfl rfl rfl rfl (by rfl) (by decide) (f292_isAsked_ok hq101) ?_
    rintro r9 M9 ⟨rfl, rfl⟩
    show pG 294 7 [some (.ref 211), some (.int p0), some (.int p1), some (.int p2)] [.int v102] (mjTo Z) _
    by_cases hc104 : mjCmp .eq v102 0 = true
    · rw [if_pos hc104] at h
      refine pG_ift (t := 23) rfl rfl hc104 ?_
      refine pG_many 1 (pc1 := 26) (L1 := [some (.ref 211), some (.int p0), some (.int p1), some (.int p2)]) (st1 := [.int ((-2000000))]) (M1 := mjTo Z) rfl ?_
      simp only [Option.some.injEq, Prod.mk.injEq] at h
      obtain ⟨rfl, rfl⟩ := h
      exact pG_ret (r := some (.int ((-2000000)))) rfl ⟨rfl, rfl⟩
    · rw [if_neg hc104] at h
      refine pG_iff (t := 23) rfl rfl hc104 ?_
      refine pG_many 4 (pc1 := 14) (L1 := [some (.ref 211), some (.int p0), some (.int p1), some (.int p2)]) (st1 := [.int p2, .int p1, .int p0, .ref 211]) (M1 := mjTo Z) rfl ?_
      cases hq105 : f290_holdsPart p0 p1 p2 Z with
      | none => rw [hq105] at h; cases h
      | some w =>
        obtain ⟨v106, Z107⟩ := w
        rw [hq105, mjBd_some] at h
        refine pG_callV (k2 := 290) (As := [.ref 211, .int p0, .int p1, .int p2]) (rest := []) rfl rfl rfl rfl rfl (by rfl) (by decide) (f290_holdsPart_ok hq105) ?_
        rintro r9 M9 ⟨rfl, rfl⟩
        show pG 294 17 [some (.ref 211), some (.int p0), some (.int p1), some (.int p2)] [.int v106] (mjTo Z107) _
        cases hq108 : f196_truth v106 Z107 with
        | none => rw [hq108] at h; cases h
        | some v109 =>
          rw [hq108, mjBp_some] at h
          refine pG_call (k2 := 196) (As := [.int v106]) (rest := []) rfl (by decide) (f196_truth_ok hq108) ?_
          rintro r9 M9 ⟨rfl, rfl⟩
          show pG 294 20 [some (.ref 211), some (.int p0), some (.int p1), some (.int p2)] [.int v109] (mjTo Z107) _
          refine pG_many 1 (pc1 := 26) (L1 := [some (.ref 211), some (.int p0), some (.int p1), some (.int p2)]) (st1 := [.int v109]) (M1 := mjTo Z107) rfl ?_
          simp only [Option.some.injEq, Prod.mk.injEq] at h
          obtain ⟨rfl, rfl⟩ := h
          exact pG_ret (r := some (.int v109)) rfl ⟨rfl, rfl⟩
def f295_why_j101 (R : Int32 → Int32 → Int32 → mjZt → Option (Int32 × mjZt)) (x4 : Int32) (x5 : Int32) (x6 : Int32) (s0 : Int64) (Z : mjZt) : Option (Int32 × mjZt) :=
  if mjCmp .ne (lg_cmp (s0 &&& 1) 0) 0 = true then
    if mjCmp .ne x5 x4 = true then
      R x4 (x5 + 1) (x6 + 1) Z
    else
      some (x6, Z)
  else
    R x4 x5 (x6 + 1) Z
set_option maxRecDepth 4000 in
theorem f295_why_j101_ok (R : Int32 → Int32 → Int32 → mjZt → Option (Int32 × mjZt)) (hR : ∀ (x4 : Int32) (x5 : Int32) (x6 : Int32) (d1 d2 d3 d7 d8 : Option Value) (Z : mjZt) (v9 : Int32) (Z9 : mjZt), R x4 x5 x6 Z = some (v9, Z9) → pG 295 40 [some (.ref 211), d1, d2, d3, some (.int x4), some (.int x5), some (.int x6), d7, d8] [] (mjTo Z) (fun r M1 => r = some (.int v9) ∧ M1 = mjTo Z9)) (x4 : Int32) (x5 : Int32) (x6 : Int32) (s0 : Int64) (d1 d2 d3 d7 d8 : Option Value) (Z : mjZt) (v9 : Int32) (Z9 : mjZt) (h : f295_why_j101 R x4 x5 x6 s0 Z = some (v9, Z9)) : pG 295 101 [some (.ref 211), d1, d2, d3, some (.int x4), some (.int x5), some (.int x6), d7, d8] [.long s0] (mjTo Z) (fun r M1 => r = some (.int v9) ∧ M1 = mjTo Z9) := by
  unfold f295_why_j101 at h
  refine pG_many 6 (pc1 := 109) (L1 := [some (.ref 211), d1, d2, d3, some (.int x4), some (.int x5), some (.int x6), some (.long s0), none]) (st1 := [.int (lg_cmp (s0 &&& 1) 0)]) (M1 := mjTo Z) rfl ?_
  by_cases hc112 : mjCmp .ne (lg_cmp (s0 &&& 1) 0) 0 = true
  · rw [if_pos hc112] at h
    refine pG_ift (t := 115) rfl rfl hc112 ?_
    refine pG_many 2 (pc1 := 119) (L1 := [some (.ref 211), d1, d2, d3, some (.int x4), some (.int x5), some (.int x6), some (.long s0), none]) (st1 := [.int x4, .int x5]) (M1 := mjTo Z) rfl ?_
    by_cases hc113 : mjCmp .ne x5 x4 = true
    · rw [if_pos hc113] at h
      refine pG_cmt (t := 125) rfl rfl hc113 ?_
      refine pG_many 3 (pc1 := 40) (L1 := [some (.ref 211), d1, d2, d3, some (.int x4), some (.int (x5 + 1)), some (.int (x6 + 1)), some (.long s0), none]) (st1 := []) (M1 := mjTo Z) rfl ?_
      exact hR x4 (x5 + 1) (x6 + 1) d1 d2 d3 (some (.long s0)) none Z v9 Z9 h
    · rw [if_neg hc113] at h
      refine pG_cmf (t := 125) rfl rfl hc113 ?_
      refine pG_many 1 (pc1 := 124) (L1 := [some (.ref 211), d1, d2, d3, some (.int x4), some (.int x5), some (.int x6), some (.long s0), none]) (st1 := [.int x6]) (M1 := mjTo Z) rfl ?_
      simp only [Option.some.injEq, Prod.mk.injEq] at h
      obtain ⟨rfl, rfl⟩ := h
      exact pG_ret (r := some (.int x6)) rfl ⟨rfl, rfl⟩
  · rw [if_neg hc112] at h
    refine pG_iff (t := 115) rfl rfl hc112 ?_
    refine pG_many 3 (pc1 := 40) (L1 := [some (.ref 211), d1, d2, d3, some (.int x4), some (.int x5), some (.int (x6 + 1)), some (.long s0), none]) (st1 := []) (M1 := mjTo Z) rfl ?_
    exact hR x4 x5 (x6 + 1) d1 d2 d3 (some (.long s0)) none Z v9 Z9 h
def f295_why_h40 : Nat → Int32 → Int32 → Int32 → mjZt → Option (Int32 × mjZt)
  | 0, _, _, _, _ => none
  | n + 1, x4, x5, x6, Z =>
    if mjCmp .ge x6 180 = true then
      some ((-1), Z)
    else
      if mjCmp .ge x6 60 = true then
        if mjCmp .ge x6 120 = true then
          f295_why_j101 (f295_why_h40 n) x4 x5 x6 ((Z.2.1 246 0) >>> (Int32.toInt64 (x6 - 120) &&& 63)) Z
        else
          f295_why_j101 (f295_why_h40 n) x4 x5 x6 ((Z.2.1 245 0) >>> (Int32.toInt64 (x6 - 60) &&& 63)) Z
      else
        f295_why_j101 (f295_why_h40 n) x4 x5 x6 ((Z.2.1 244 0) >>> (Int32.toInt64 x6 &&& 63)) Z
set_option maxRecDepth 4000 in
theorem f295_why_h40_ok : ∀ (n : Nat) (x4 : Int32) (x5 : Int32) (x6 : Int32) (d1 d2 d3 d7 d8 : Option Value) (Z : mjZt) (v9 : Int32) (Z9 : mjZt), f295_why_h40 n x4 x5 x6 Z = some (v9, Z9) → pG 295 40 [some (.ref 211), d1, d2, d3, some (.int x4), some (.int x5), some (.int x6), d7, d8] [] (mjTo Z) (fun r M1 => r = some (.int v9) ∧ M1 = mjTo Z9)
  | 0, x4, x5, x6, d1, d2, d3, d7, d8, Z, v9, Z9, h => by rw [f295_why_h40] at h; cases h
  | n + 1, x4, x5, x6, d1, d2, d3, d7, d8, Z, v9, Z9, h => by
      rw [f295_why_h40] at h
      refine pG_many 2 (pc1 := 45) (L1 := [some (.ref 211), d1, d2, d3, some (.int x4), some (.int x5), some (.int x6), d7, d8]) (st1 := [.int 180, .int x6]) (M1 := mjTo Z) rfl ?_
      by_cases hc109 : mjCmp .ge x6 180 = true
      · rw [if_pos hc109] at h
        refine pG_cmt (t := 134) rfl rfl hc109 ?_
        refine pG_many 1 (pc1 := 135) (L1 := [some (.ref 211), d1, d2, d3, some (.int x4), some (.int x5), some (.int x6), d7, d8]) (st1 := [.int ((-1))]) (M1 := mjTo Z) rfl ?_
        simp only [Option.some.injEq, Prod.mk.injEq] at h
        obtain ⟨rfl, rfl⟩ := h
        exact pG_ret (r := some (.int ((-1)))) rfl ⟨rfl, rfl⟩
      · rw [if_neg hc109] at h
        refine pG_cmf (t := 134) rfl rfl hc109 ?_
        refine pG_many 2 (pc1 := 52) (L1 := [some (.ref 211), d1, d2, d3, some (.int x4), some (.int x5), some (.int x6), d7, d8]) (st1 := [.int 60, .int x6]) (M1 := mjTo Z) rfl ?_
        by_cases hc110 : mjCmp .ge x6 60 = true
        · rw [if_pos hc110] at h
          refine pG_cmt (t := 67) rfl rfl hc110 ?_
          refine pG_many 2 (pc1 := 71) (L1 := [some (.ref 211), d1, d2, d3, some (.int x4), some (.int x5), some (.int x6), d7, d8]) (st1 := [.int 120, .int x6]) (M1 := mjTo Z) rfl ?_
          by_cases hc111 : mjCmp .ge x6 120 = true
          · rw [if_pos hc111] at h
            refine pG_cmt (t := 89) rfl rfl hc111 ?_
            refine pG_many 1 (pc1 := 90) (L1 := [some (.ref 211), d1, d2, d3, some (.int x4), some (.int x5), some (.int x6), d7, d8]) (st1 := [.ref 211]) (M1 := mjTo Z) rfl ?_
            refine pG_getR (ci := 12) (f := 64) (b := 246) rfl rfl rfl (by rfl) rfl ?_
            refine pG_many 1 (pc1 := 94) (L1 := [some (.ref 211), d1, d2, d3, some (.int x4), some (.int x5), some (.int x6), d7, d8]) (st1 := [.int 0, .ref 246]) (M1 := mjTo Z) rfl ?_
            refine pG_lal rfl (by rfl) (by decide) ?_
            refine pG_many 4 (pc1 := 101) (L1 := [some (.ref 211), d1, d2, d3, some (.int x4), some (.int x5), some (.int x6), d7, d8]) (st1 := [.long ((Z.2.1 246 0) >>> (Int32.toInt64 (x6 - 120) &&& 63))]) (M1 := mjTo Z) rfl ?_
            exact f295_why_j101_ok (f295_why_h40 n) (fun x4 x5 x6 d1 d2 d3 d7 d8 Z v9 Z9 h => f295_why_h40_ok n x4 x5 x6 d1 d2 d3 d7 d8 Z v9 Z9 h) x4 x5 x6 ((Z.2.1 246 0) >>> (Int32.toInt64 (x6 - 120) &&& 63)) d1 d2 d3 d7 d8 Z v9 Z9 h
          · rw [if_neg hc111] at h
            refine pG_cmf (t := 89) rfl rfl hc111 ?_
            refine pG_many 1 (pc1 := 75) (L1 := [some (.ref 211), d1, d2, d3, some (.int x4), some (.int x5), some (.int x6), d7, d8]) (st1 := [.ref 211]) (M1 := mjTo Z) rfl ?_
            refine pG_getR (ci := 12) (f := 63) (b := 245) rfl rfl rfl (by rfl) rfl ?_
            refine pG_many 1 (pc1 := 79) (L1 := [some (.ref 211), d1, d2, d3, some (.int x4), some (.int x5), some (.int x6), d7, d8]) (st1 := [.int 0, .ref 245]) (M1 := mjTo Z) rfl ?_
            refine pG_lal rfl (by rfl) (by decide) ?_
            refine pG_many 5 (pc1 := 101) (L1 := [some (.ref 211), d1, d2, d3, some (.int x4), some (.int x5), some (.int x6), d7, d8]) (st1 := [.long ((Z.2.1 245 0) >>> (Int32.toInt64 (x6 - 60) &&& 63))]) (M1 := mjTo Z) rfl ?_
            exact f295_why_j101_ok (f295_why_h40 n) (fun x4 x5 x6 d1 d2 d3 d7 d8 Z v9 Z9 h => f295_why_h40_ok n x4 x5 x6 d1 d2 d3 d7 d8 Z v9 Z9 h) x4 x5 x6 ((Z.2.1 245 0) >>> (Int32.toInt64 (x6 - 60) &&& 63)) d1 d2 d3 d7 d8 Z v9 Z9 h
        · rw [if_neg hc110] at h
          refine pG_cmf (t := 67) rfl rfl hc110 ?_
          refine pG_many 1 (pc1 := 56) (L1 := [some (.ref 211), d1, d2, d3, some (.int x4), some (.int x5), some (.int x6), d7, d8]) (st1 := [.ref 211]) (M1 := mjTo Z) rfl ?_
          refine pG_getR (ci := 12) (f := 62) (b := 244) rfl rfl rfl (by rfl) rfl ?_
          refine pG_many 1 (pc1 := 60) (L1 := [some (.ref 211), d1, d2, d3, some (.int x4), some (.int x5), some (.int x6), d7, d8]) (st1 := [.int 0, .ref 244]) (M1 := mjTo Z) rfl ?_
          refine pG_lal rfl (by rfl) (by decide) ?_
          refine pG_many 3 (pc1 := 101) (L1 := [some (.ref 211), d1, d2, d3, some (.int x4), some (.int x5), some (.int x6), d7, d8]) (st1 := [.long ((Z.2.1 244 0) >>> (Int32.toInt64 x6 &&& 63))]) (M1 := mjTo Z) rfl ?_
          exact f295_why_j101_ok (f295_why_h40 n) (fun x4 x5 x6 d1 d2 d3 d7 d8 Z v9 Z9 h => f295_why_h40_ok n x4 x5 x6 d1 d2 d3 d7 d8 Z v9 Z9 h) x4 x5 x6 ((Z.2.1 244 0) >>> (Int32.toInt64 x6 &&& 63)) d1 d2 d3 d7 d8 Z v9 Z9 h
def f295_why (p0 : Int32) (p1 : Int32) (p2 : Int32) (p3 : Int32) (Z : mjZt) : Option (Int32 × mjZt) :=
  mjBp (f292_isAsked p0 p1 p2 Z) fun v102 =>
  if mjCmp .ne v102 0 = true then
    mjBd (f290_holdsPart p0 p1 p2 Z) fun v106 Z107 =>
    if mjCmp .ne p3 ((-1)) = true then
      f295_why_h40 mjF p3 0 0 Z107
    else
      mjBp (f284_size 0 Z107) fun v115 =>
      some (v115, Z107)
  else
    some ((-2000000), Z)
set_option maxRecDepth 4000 in
theorem f295_why_ok {p0 : Int32} {p1 : Int32} {p2 : Int32} {p3 : Int32} {Z : mjZt} {v9 : Int32} {Z9 : mjZt} (h : f295_why p0 p1 p2 p3 Z = some (v9, Z9)) : pG 295 0 (mjEnt [.ref 211, .int p0, .int p1, .int p2, .int p3] (mjML 295)) [] (mjTo Z) (fun r M1 => r = some (.int v9) ∧ M1 = mjTo Z9) := by
  unfold f295_why at h
  show pG 295 0 [some (.ref 211), some (.int p0), some (.int p1), some (.int p2), some (.int p3), none, none, none, none] [] (mjTo Z) _
  refine pG_many 4 (pc1 := 4) (L1 := [some (.ref 211), some (.int p0), some (.int p1), some (.int p2), some (.int p3), none, none, none, none]) (st1 := [.int p2, .int p1, .int p0, .ref 211]) (M1 := mjTo Z) rfl ?_
  cases hq101 : f292_isAsked p0 p1 p2 Z with
  | none => rw [hq101] at h; cases h
  | some v102 =>
    rw [hq101, mjBp_some] at h
    refine pG_callV (k2 := 292) (As := [.ref 211, .int p0, .int p1, .int p2]) (rest := []) rfl rfl rfl rfl rfl (by rfl) (by decide) (f292_isAsked_ok hq101) ?_
    rintro r9 M9 ⟨rfl, rfl⟩
    show pG 295 7 [some (.ref 211), some (.int p0), some (.int p1), some (.int p2), some (.int p3), none, none, none, none] [.int v102] (mjTo Z) _
    by_cases hc104 : mjCmp .ne v102 0 = true
    · rw [if_pos hc104] at h
      refine pG_ift (t := 14) rfl rfl hc104 ?_
      refine pG_many 4 (pc1 := 18) (L1 := [some (.ref 211), some (.int p0), some (.int p1), some (.int p2), some (.int p3), none, none, none, none]) (st1 := [.int p2, .int p1, .int p0, .ref 211]) (M1 := mjTo Z) rfl ?_
      cases hq105 : f290_holdsPart p0 p1 p2 Z with
      | none => rw [hq105] at h; cases h
      | some w =>
        obtain ⟨v106, Z107⟩ := w
        rw [hq105, mjBd_some] at h
        refine pG_callV (k2 := 290) (As := [.ref 211, .int p0, .int p1, .int p2]) (rest := []) rfl rfl rfl rfl rfl (by rfl) (by decide) (f290_holdsPart_ok hq105) ?_
        rintro r9 M9 ⟨rfl, rfl⟩
        show pG 295 21 [some (.ref 211), some (.int p0), some (.int p1), some (.int p2), some (.int p3), none, none, none, none] [.int v106] (mjTo Z107) _
        refine pG_many 3 (pc1 := 25) (L1 := [some (.ref 211), some (.int p0), some (.int p1), some (.int p2), some (.int p3), none, none, none, none]) (st1 := [.int ((-1)), .int p3]) (M1 := mjTo Z107) rfl ?_
        by_cases hc108 : mjCmp .ne p3 ((-1)) = true
        · rw [if_pos hc108] at h
          refine pG_cmt (t := 34) rfl rfl hc108 ?_
          refine pG_many 4 (pc1 := 40) (L1 := [some (.ref 211), some (.int p0), some (.int p1), some (.int p2), some (.int p3), some (.int 0), some (.int 0), none, none]) (st1 := []) (M1 := mjTo Z107) rfl ?_
          exact f295_why_h40_ok mjF p3 0 0 (some (.int p0)) (some (.int p1)) (some (.int p2)) none none Z107 v9 Z9 h
        · rw [if_neg hc108] at h
          refine pG_cmf (t := 34) rfl rfl hc108 ?_
          refine pG_many 2 (pc1 := 30) (L1 := [some (.ref 211), some (.int p0), some (.int p1), some (.int p2), some (.int p3), none, none, none, none]) (st1 := [.int 0, .ref 211]) (M1 := mjTo Z107) rfl ?_
          cases hq114 : f284_size 0 Z107 with
          | none => rw [hq114] at h; cases h
          | some v115 =>
            rw [hq114, mjBp_some] at h
            refine pG_callV (k2 := 284) (As := [.ref 211, .int 0]) (rest := []) rfl rfl rfl rfl rfl (by rfl) (by decide) (f284_size_ok hq114) ?_
            rintro r9 M9 ⟨rfl, rfl⟩
            show pG 295 33 [some (.ref 211), some (.int p0), some (.int p1), some (.int p2), some (.int p3), none, none, none, none] [.int v115] (mjTo Z107) _
            simp only [Option.some.injEq, Prod.mk.injEq] at h
            obtain ⟨rfl, rfl⟩ := h
            exact pG_ret (r := some (.int v115)) rfl ⟨rfl, rfl⟩
    · rw [if_neg hc104] at h
      refine pG_iff (t := 14) rfl rfl hc104 ?_
      refine pG_many 1 (pc1 := 13) (L1 := [some (.ref 211), some (.int p0), some (.int p1), some (.int p2), some (.int p3), none, none, none, none]) (st1 := [.int ((-2000000))]) (M1 := mjTo Z) rfl ?_
      simp only [Option.some.injEq, Prod.mk.injEq] at h
      obtain ⟨rfl, rfl⟩ := h
      exact pG_ret (r := some (.int ((-2000000)))) rfl ⟨rfl, rfl⟩
def f296_isStruck (p0 : Int32) (p1 : Int32) (Z : mjZt) : Option (Int32 × mjZt) :=
  mjBp (f278_isWaived p0 Z) fun v102 =>
  if mjCmp .ne v102 0 = true then
    some (0, Z)
  else
    mjBp (f273_kindOf p0 Z) fun v106 =>
    if mjIn p1 8 = true then
    if mjCmp .ne v106 (Z.1 235 (mjIx p1)) = true then
      some (0, Z)
    else
      mjBd (f290_holdsPart p1 0 p0 Z) fun v111 Z112 =>
      if mjCmp .eq v111 0 = true then
        some (0, Z112)
      else
        mjBp (f289_hasExcuse p1 Z112) fun v115 =>
        if mjCmp .eq v115 0 = true then
          some (1, Z112)
        else
          mjBd (f290_holdsPart p1 1 p0 Z112) fun v119 Z120 =>
          if mjCmp .ne v119 0 = true then
            some (0, Z120)
          else
            some (1, Z120)
    else none
set_option maxRecDepth 4000 in
theorem f296_isStruck_ok {p0 : Int32} {p1 : Int32} {Z : mjZt} {v9 : Int32} {Z9 : mjZt} (h : f296_isStruck p0 p1 Z = some (v9, Z9)) : pG 296 0 (mjEnt [.ref 211, .int p0, .int p1] (mjML 296)) [] (mjTo Z) (fun r M1 => r = some (.int v9) ∧ M1 = mjTo Z9) := by
  unfold f296_isStruck at h
  show pG 296 0 [some (.ref 211), some (.int p0), some (.int p1)] [] (mjTo Z) _
  refine pG_many 2 (pc1 := 2) (L1 := [some (.ref 211), some (.int p0), some (.int p1)]) (st1 := [.int p0, .ref 211]) (M1 := mjTo Z) rfl ?_
  cases hq101 : f278_isWaived p0 Z with
  | none => rw [hq101] at h; cases h
  | some v102 =>
    rw [hq101, mjBp_some] at h
    refine pG_callV (k2 := 278) (As := [.ref 211, .int p0]) (rest := []) rfl rfl rfl rfl rfl (by rfl) (by decide) (f278_isWaived_ok hq101) ?_
    rintro r9 M9 ⟨rfl, rfl⟩
    show pG 296 5 [some (.ref 211), some (.int p0), some (.int p1)] [.int v102] (mjTo Z) _
    by_cases hc104 : mjCmp .ne v102 0 = true
    · rw [if_pos hc104] at h
      refine pG_ift (t := 54) rfl rfl hc104 ?_
      refine pG_many 1 (pc1 := 55) (L1 := [some (.ref 211), some (.int p0), some (.int p1)]) (st1 := [.int 0]) (M1 := mjTo Z) rfl ?_
      simp only [Option.some.injEq, Prod.mk.injEq] at h
      obtain ⟨rfl, rfl⟩ := h
      exact pG_ret (r := some (.int 0)) rfl ⟨rfl, rfl⟩
    · rw [if_neg hc104] at h
      refine pG_iff (t := 54) rfl rfl hc104 ?_
      refine pG_many 2 (pc1 := 10) (L1 := [some (.ref 211), some (.int p0), some (.int p1)]) (st1 := [.int p0, .ref 211]) (M1 := mjTo Z) rfl ?_
      cases hq105 : f273_kindOf p0 Z with
      | none => rw [hq105] at h; cases h
      | some v106 =>
        rw [hq105, mjBp_some] at h
        refine pG_callV (k2 := 273) (As := [.ref 211, .int p0]) (rest := []) rfl rfl rfl rfl rfl (by rfl) (by decide) (f273_kindOf_ok hq105) ?_
        rintro r9 M9 ⟨rfl, rfl⟩
        show pG 296 13 [some (.ref 211), some (.int p0), some (.int p1)] [.int v106] (mjTo Z) _
        refine pG_many 1 (pc1 := 14) (L1 := [some (.ref 211), some (.int p0), some (.int p1)]) (st1 := [.ref 211, .int v106]) (M1 := mjTo Z) rfl ?_
        refine pG_getR (ci := 12) (f := 50) (b := 235) rfl rfl rfl (by rfl) rfl ?_
        refine pG_many 1 (pc1 := 18) (L1 := [some (.ref 211), some (.int p0), some (.int p1)]) (st1 := [.int p1, .ref 235, .int v106]) (M1 := mjTo Z) rfl ?_
        have hk108 : mjIn p1 8 = true := by
          by_cases q9 : mjIn p1 8 = true
          · exact q9
          · rw [if_neg q9] at h; cases h
        rw [if_pos hk108] at h
        refine pG_ial rfl (by rfl) hk108 ?_
        by_cases hc109 : mjCmp .ne v106 (Z.1 235 (mjIx p1)) = true
        · rw [if_pos hc109] at h
          refine pG_cmt (t := 54) rfl rfl hc109 ?_
          refine pG_many 1 (pc1 := 55) (L1 := [some (.ref 211), some (.int p0), some (.int p1)]) (st1 := [.int 0]) (M1 := mjTo Z) rfl ?_
          simp only [Option.some.injEq, Prod.mk.injEq] at h
          obtain ⟨rfl, rfl⟩ := h
          exact pG_ret (r := some (.int 0)) rfl ⟨rfl, rfl⟩
        · rw [if_neg hc109] at h
          refine pG_cmf (t := 54) rfl rfl hc109 ?_
          refine pG_many 4 (pc1 := 26) (L1 := [some (.ref 211), some (.int p0), some (.int p1)]) (st1 := [.int p0, .int 0, .int p1, .ref 211]) (M1 := mjTo Z) rfl ?_
          cases hq110 : f290_holdsPart p1 0 p0 Z with
          | none => rw [hq110] at h; cases h
          | some w =>
            obtain ⟨v111, Z112⟩ := w
            rw [hq110, mjBd_some] at h
            refine pG_callV (k2 := 290) (As := [.ref 211, .int p1, .int 0, .int p0]) (rest := []) rfl rfl rfl rfl rfl (by rfl) (by decide) (f290_holdsPart_ok hq110) ?_
            rintro r9 M9 ⟨rfl, rfl⟩
            show pG 296 29 [some (.ref 211), some (.int p0), some (.int p1)] [.int v111] (mjTo Z112) _
            by_cases hc113 : mjCmp .eq v111 0 = true
            · rw [if_pos hc113] at h
              refine pG_ift (t := 54) rfl rfl hc113 ?_
              refine pG_many 1 (pc1 := 55) (L1 := [some (.ref 211), some (.int p0), some (.int p1)]) (st1 := [.int 0]) (M1 := mjTo Z112) rfl ?_
              simp only [Option.some.injEq, Prod.mk.injEq] at h
              obtain ⟨rfl, rfl⟩ := h
              exact pG_ret (r := some (.int 0)) rfl ⟨rfl, rfl⟩
            · rw [if_neg hc113] at h
              refine pG_iff (t := 54) rfl rfl hc113 ?_
              refine pG_many 2 (pc1 := 34) (L1 := [some (.ref 211), some (.int p0), some (.int p1)]) (st1 := [.int p1, .ref 211]) (M1 := mjTo Z112) rfl ?_
              cases hq114 : f289_hasExcuse p1 Z112 with
              | none => rw [hq114] at h; cases h
              | some v115 =>
                rw [hq114, mjBp_some] at h
                refine pG_callV (k2 := 289) (As := [.ref 211, .int p1]) (rest := []) rfl rfl rfl rfl rfl (by rfl) (by decide) (f289_hasExcuse_ok hq114) ?_
                rintro r9 M9 ⟨rfl, rfl⟩
                show pG 296 37 [some (.ref 211), some (.int p0), some (.int p1)] [.int v115] (mjTo Z112) _
                by_cases hc117 : mjCmp .eq v115 0 = true
                · rw [if_pos hc117] at h
                  refine pG_ift (t := 50) rfl rfl hc117 ?_
                  refine pG_many 2 (pc1 := 55) (L1 := [some (.ref 211), some (.int p0), some (.int p1)]) (st1 := [.int 1]) (M1 := mjTo Z112) rfl ?_
                  simp only [Option.some.injEq, Prod.mk.injEq] at h
                  obtain ⟨rfl, rfl⟩ := h
                  exact pG_ret (r := some (.int 1)) rfl ⟨rfl, rfl⟩
                · rw [if_neg hc117] at h
                  refine pG_iff (t := 50) rfl rfl hc117 ?_
                  refine pG_many 4 (pc1 := 44) (L1 := [some (.ref 211), some (.int p0), some (.int p1)]) (st1 := [.int p0, .int 1, .int p1, .ref 211]) (M1 := mjTo Z112) rfl ?_
                  cases hq118 : f290_holdsPart p1 1 p0 Z112 with
                  | none => rw [hq118] at h; cases h
                  | some w =>
                    obtain ⟨v119, Z120⟩ := w
                    rw [hq118, mjBd_some] at h
                    refine pG_callV (k2 := 290) (As := [.ref 211, .int p1, .int 1, .int p0]) (rest := []) rfl rfl rfl rfl rfl (by rfl) (by decide) (f290_holdsPart_ok hq118) ?_
                    rintro r9 M9 ⟨rfl, rfl⟩
                    show pG 296 47 [some (.ref 211), some (.int p0), some (.int p1)] [.int v119] (mjTo Z120) _
                    by_cases hc121 : mjCmp .ne v119 0 = true
                    · rw [if_pos hc121] at h
                      refine pG_ift (t := 54) rfl rfl hc121 ?_
                      refine pG_many 1 (pc1 := 55) (L1 := [some (.ref 211), some (.int p0), some (.int p1)]) (st1 := [.int 0]) (M1 := mjTo Z120) rfl ?_
                      simp only [Option.some.injEq, Prod.mk.injEq] at h
                      obtain ⟨rfl, rfl⟩ := h
                      exact pG_ret (r := some (.int 0)) rfl ⟨rfl, rfl⟩
                    · rw [if_neg hc121] at h
                      refine pG_iff (t := 54) rfl rfl hc121 ?_
                      refine pG_many 2 (pc1 := 55) (L1 := [some (.ref 211), some (.int p0), some (.int p1)]) (st1 := [.int 1]) (M1 := mjTo Z120) rfl ?_
                      simp only [Option.some.injEq, Prod.mk.injEq] at h
                      obtain ⟨rfl, rfl⟩ := h
                      exact pG_ret (r := some (.int 1)) rfl ⟨rfl, rfl⟩
def f297_struckBy (p0 : Int32) (p1 : Int32) (Z : mjZt) : Option (Int32 × mjZt) :=
  mjBp (f270_isAct p0 Z) fun v102 =>
  if mjCmp .eq v102 0 = true then
    some ((-2000000), Z)
  else
    mjBp (f291_isRule p1 Z) fun v106 =>
    if mjCmp .eq v106 0 = true then
      some ((-2000000), Z)
    else
      mjBd (f296_isStruck p0 p1 Z) fun v110 Z111 =>
      mjBp (f196_truth v110 Z111) fun v113 =>
      some (v113, Z111)
set_option maxRecDepth 4000 in
theorem f297_struckBy_ok {p0 : Int32} {p1 : Int32} {Z : mjZt} {v9 : Int32} {Z9 : mjZt} (h : f297_struckBy p0 p1 Z = some (v9, Z9)) : pG 297 0 (mjEnt [.ref 211, .int p0, .int p1] (mjML 297)) [] (mjTo Z) (fun r M1 => r = some (.int v9) ∧ M1 = mjTo Z9) := by
  unfold f297_struckBy at h
  show pG 297 0 [some (.ref 211), some (.int p0), some (.int p1)] [] (mjTo Z) _
  refine pG_many 2 (pc1 := 2) (L1 := [some (.ref 211), some (.int p0), some (.int p1)]) (st1 := [.int p0, .ref 211]) (M1 := mjTo Z) rfl ?_
  cases hq101 : f270_isAct p0 Z with
  | none => rw [hq101] at h; cases h
  | some v102 =>
    rw [hq101, mjBp_some] at h
    refine pG_callV (k2 := 270) (As := [.ref 211, .int p0]) (rest := []) rfl rfl rfl rfl rfl (by rfl) (by decide) (f270_isAct_ok hq101) ?_
    rintro r9 M9 ⟨rfl, rfl⟩
    show pG 297 5 [some (.ref 211), some (.int p0), some (.int p1)] [.int v102] (mjTo Z) _
    by_cases hc104 : mjCmp .eq v102 0 = true
    · rw [if_pos hc104] at h
      refine pG_ift (t := 28) rfl rfl hc104 ?_
      refine pG_many 1 (pc1 := 31) (L1 := [some (.ref 211), some (.int p0), some (.int p1)]) (st1 := [.int ((-2000000))]) (M1 := mjTo Z) rfl ?_
      simp only [Option.some.injEq, Prod.mk.injEq] at h
      obtain ⟨rfl, rfl⟩ := h
      exact pG_ret (r := some (.int ((-2000000)))) rfl ⟨rfl, rfl⟩
    · rw [if_neg hc104] at h
      refine pG_iff (t := 28) rfl rfl hc104 ?_
      refine pG_many 2 (pc1 := 10) (L1 := [some (.ref 211), some (.int p0), some (.int p1)]) (st1 := [.int p1, .ref 211]) (M1 := mjTo Z) rfl ?_
      cases hq105 : f291_isRule p1 Z with
      | none => rw [hq105] at h; cases h
      | some v106 =>
        rw [hq105, mjBp_some] at h
        refine pG_callV (k2 := 291) (As := [.ref 211, .int p1]) (rest := []) rfl rfl rfl rfl rfl (by rfl) (by decide) (f291_isRule_ok hq105) ?_
        rintro r9 M9 ⟨rfl, rfl⟩
        show pG 297 13 [some (.ref 211), some (.int p0), some (.int p1)] [.int v106] (mjTo Z) _
        by_cases hc108 : mjCmp .eq v106 0 = true
        · rw [if_pos hc108] at h
          refine pG_ift (t := 28) rfl rfl hc108 ?_
          refine pG_many 1 (pc1 := 31) (L1 := [some (.ref 211), some (.int p0), some (.int p1)]) (st1 := [.int ((-2000000))]) (M1 := mjTo Z) rfl ?_
          simp only [Option.some.injEq, Prod.mk.injEq] at h
          obtain ⟨rfl, rfl⟩ := h
          exact pG_ret (r := some (.int ((-2000000)))) rfl ⟨rfl, rfl⟩
        · rw [if_neg hc108] at h
          refine pG_iff (t := 28) rfl rfl hc108 ?_
          refine pG_many 3 (pc1 := 19) (L1 := [some (.ref 211), some (.int p0), some (.int p1)]) (st1 := [.int p1, .int p0, .ref 211]) (M1 := mjTo Z) rfl ?_
          cases hq109 : f296_isStruck p0 p1 Z with
          | none => rw [hq109] at h; cases h
          | some w =>
            obtain ⟨v110, Z111⟩ := w
            rw [hq109, mjBd_some] at h
            refine pG_callV (k2 := 296) (As := [.ref 211, .int p0, .int p1]) (rest := []) rfl rfl rfl rfl rfl (by rfl) (by decide) (f296_isStruck_ok hq109) ?_
            rintro r9 M9 ⟨rfl, rfl⟩
            show pG 297 22 [some (.ref 211), some (.int p0), some (.int p1)] [.int v110] (mjTo Z111) _
            cases hq112 : f196_truth v110 Z111 with
            | none => rw [hq112] at h; cases h
            | some v113 =>
              rw [hq112, mjBp_some] at h
              refine pG_call (k2 := 196) (As := [.int v110]) (rest := []) rfl (by decide) (f196_truth_ok hq112) ?_
              rintro r9 M9 ⟨rfl, rfl⟩
              show pG 297 25 [some (.ref 211), some (.int p0), some (.int p1)] [.int v113] (mjTo Z111) _
              refine pG_many 1 (pc1 := 31) (L1 := [some (.ref 211), some (.int p0), some (.int p1)]) (st1 := [.int v113]) (M1 := mjTo Z111) rfl ?_
              simp only [Option.some.injEq, Prod.mk.injEq] at h
              obtain ⟨rfl, rfl⟩ := h
              exact pG_ret (r := some (.int v113)) rfl ⟨rfl, rfl⟩
def f298_firstRule_h2 : Nat → Int32 → Int32 → mjZt → Option (Int32 × mjZt)
  | 0, _, _, _ => none
  | n + 1, x1, x2, Z =>
    if mjCmp .ge x2 (Z.1 211 41) = true then
      some ((-1), Z)
    else
      mjBd (f296_isStruck x1 x2 Z) fun v103 Z104 =>
      if mjCmp .eq v103 0 = true then
        f298_firstRule_h2 n x1 (x2 + 1) Z104
      else
        some (x2, Z104)
set_option maxRecDepth 4000 in
theorem f298_firstRule_h2_ok : ∀ (n : Nat) (x1 : Int32) (x2 : Int32) (Z : mjZt) (v9 : Int32) (Z9 : mjZt), f298_firstRule_h2 n x1 x2 Z = some (v9, Z9) → pG 298 2 [some (.ref 211), some (.int x1), some (.int x2)] [] (mjTo Z) (fun r M1 => r = some (.int v9) ∧ M1 = mjTo Z9)
  | 0, x1, x2, Z, v9, Z9, h => by rw [f298_firstRule_h2] at h; cases h
  | n + 1, x1, x2, Z, v9, Z9, h => by
      rw [f298_firstRule_h2] at h
      refine pG_many 2 (pc1 := 4) (L1 := [some (.ref 211), some (.int x1), some (.int x2)]) (st1 := [.ref 211, .int x2]) (M1 := mjTo Z) rfl ?_
      refine pG_getI (ci := 12) (f := 41) rfl rfl (Or.inl rfl) (by rfl) ?_
      by_cases hc101 : mjCmp .ge x2 (Z.1 211 41) = true
      · rw [if_pos hc101] at h
        refine pG_cmt (t := 27) rfl rfl hc101 ?_
        refine pG_many 1 (pc1 := 28) (L1 := [some (.ref 211), some (.int x1), some (.int x2)]) (st1 := [.int ((-1))]) (M1 := mjTo Z) rfl ?_
        simp only [Option.some.injEq, Prod.mk.injEq] at h
        obtain ⟨rfl, rfl⟩ := h
        exact pG_ret (r := some (.int ((-1)))) rfl ⟨rfl, rfl⟩
      · rw [if_neg hc101] at h
        refine pG_cmf (t := 27) rfl rfl hc101 ?_
        refine pG_many 3 (pc1 := 13) (L1 := [some (.ref 211), some (.int x1), some (.int x2)]) (st1 := [.int x2, .int x1, .ref 211]) (M1 := mjTo Z) rfl ?_
        cases hq102 : f296_isStruck x1 x2 Z with
        | none => rw [hq102] at h; cases h
        | some w =>
          obtain ⟨v103, Z104⟩ := w
          rw [hq102, mjBd_some] at h
          refine pG_callV (k2 := 296) (As := [.ref 211, .int x1, .int x2]) (rest := []) rfl rfl rfl rfl rfl (by rfl) (by decide) (f296_isStruck_ok hq102) ?_
          rintro r9 M9 ⟨rfl, rfl⟩
          show pG 298 16 [some (.ref 211), some (.int x1), some (.int x2)] [.int v103] (mjTo Z104) _
          by_cases hc105 : mjCmp .eq v103 0 = true
          · rw [if_pos hc105] at h
            refine pG_ift (t := 21) rfl rfl hc105 ?_
            refine pG_many 2 (pc1 := 2) (L1 := [some (.ref 211), some (.int x1), some (.int (x2 + 1))]) (st1 := []) (M1 := mjTo Z104) rfl ?_
            exact f298_firstRule_h2_ok n x1 (x2 + 1) Z104 v9 Z9 h
          · rw [if_neg hc105] at h
            refine pG_iff (t := 21) rfl rfl hc105 ?_
            refine pG_many 1 (pc1 := 20) (L1 := [some (.ref 211), some (.int x1), some (.int x2)]) (st1 := [.int x2]) (M1 := mjTo Z104) rfl ?_
            simp only [Option.some.injEq, Prod.mk.injEq] at h
            obtain ⟨rfl, rfl⟩ := h
            exact pG_ret (r := some (.int x2)) rfl ⟨rfl, rfl⟩
def f298_firstRule (p0 : Int32) (Z : mjZt) : Option (Int32 × mjZt) :=
  f298_firstRule_h2 mjF p0 0 Z
set_option maxRecDepth 4000 in
theorem f298_firstRule_ok {p0 : Int32} {Z : mjZt} {v9 : Int32} {Z9 : mjZt} (h : f298_firstRule p0 Z = some (v9, Z9)) : pG 298 0 (mjEnt [.ref 211, .int p0] (mjML 298)) [] (mjTo Z) (fun r M1 => r = some (.int v9) ∧ M1 = mjTo Z9) := by
  unfold f298_firstRule at h
  show pG 298 0 [some (.ref 211), some (.int p0), none] [] (mjTo Z) _
  refine pG_many 2 (pc1 := 2) (L1 := [some (.ref 211), some (.int p0), some (.int 0)]) (st1 := []) (M1 := mjTo Z) rfl ?_
  exact f298_firstRule_h2_ok mjF p0 0 Z v9 Z9 h
def f299_without_h60 : Nat → Int32 → Int32 → Int32 → Int32 → Int32 → Int32 → Int32 → Int32 → Int32 → mjZt → Option (Int32 × mjZt)
  | 0, _, _, _, _, _, _, _, _, _, _ => none
  | n + 1, x1, x2, x3, x4, x5, x6, x7, x8, x9, Z =>
    if mjCmp .gt x9 x3 = true then
      if mjIn ((72 + (3 * x1)) + x2) 108 = true then
      mjLet (zSi Z 239 (mjIx ((72 + (3 * x1)) + x2)) x5) fun Z112 =>
      if mjCmp .ne x4 0 = true then
        if mjCmp .ne x4 1 = true then
          some (x8, Z112)
        else
          some (x7, Z112)
      else
        some (x6, Z112)
      else none
    else
      if mjIn ((72 + (3 * x1)) + x2) 108 = true then
      mjLet (zSi Z 239 (mjIx ((72 + (3 * x1)) + x2)) x9) fun Z116 =>
      mjBd (f298_firstRule x1 Z116) fun v118 Z119 =>
      if mjCmp .eq v118 ((-1)) = true then
        if mjCmp .ne x7 ((-1)) = true then
          f299_without_h60 n x1 x2 x3 x4 x5 (x6 + 1) x7 x9 (x9 + 1) Z119
        else
          f299_without_h60 n x1 x2 x3 x4 x5 (x6 + 1) x9 x9 (x9 + 1) Z119
      else
        f299_without_h60 n x1 x2 x3 x4 x5 x6 x7 x8 (x9 + 1) Z119
      else none
set_option maxRecDepth 4000 in
theorem f299_without_h60_ok : ∀ (n : Nat) (x1 : Int32) (x2 : Int32) (x3 : Int32) (x4 : Int32) (x5 : Int32) (x6 : Int32) (x7 : Int32) (x8 : Int32) (x9 : Int32) (Z : mjZt) (v9 : Int32) (Z9 : mjZt), f299_without_h60 n x1 x2 x3 x4 x5 x6 x7 x8 x9 Z = some (v9, Z9) → pG 299 60 [some (.ref 211), some (.int x1), some (.int x2), some (.int x3), some (.int x4), some (.int x5), some (.int x6), some (.int x7), some (.int x8), some (.int x9)] [] (mjTo Z) (fun r M1 => r = some (.int v9) ∧ M1 = mjTo Z9)
  | 0, x1, x2, x3, x4, x5, x6, x7, x8, x9, Z, v9, Z9, h => by rw [f299_without_h60] at h; cases h
  | n + 1, x1, x2, x3, x4, x5, x6, x7, x8, x9, Z, v9, Z9, h => by
      rw [f299_without_h60] at h
      refine pG_many 2 (pc1 := 63) (L1 := [some (.ref 211), some (.int x1), some (.int x2), some (.int x3), some (.int x4), some (.int x5), some (.int x6), some (.int x7), some (.int x8), some (.int x9)]) (st1 := [.int x3, .int x9]) (M1 := mjTo Z) rfl ?_
      by_cases hc110 : mjCmp .gt x9 x3 = true
      · rw [if_pos hc110] at h
        refine pG_cmt (t := 121) rfl rfl hc110 ?_
        refine pG_many 1 (pc1 := 122) (L1 := [some (.ref 211), some (.int x1), some (.int x2), some (.int x3), some (.int x4), some (.int x5), some (.int x6), some (.int x7), some (.int x8), some (.int x9)]) (st1 := [.ref 211]) (M1 := mjTo Z) rfl ?_
        refine pG_getR (ci := 12) (f := 54) (b := 239) rfl rfl rfl (by rfl) rfl ?_
        refine pG_many 8 (pc1 := 135) (L1 := [some (.ref 211), some (.int x1), some (.int x2), some (.int x3), some (.int x4), some (.int x5), some (.int x6), some (.int x7), some (.int x8), some (.int x9)]) (st1 := [.int x5, .int ((72 + (3 * x1)) + x2), .ref 239]) (M1 := mjTo Z) rfl ?_
        have hk111 : mjIn ((72 + (3 * x1)) + x2) 108 = true := by
          by_cases q9 : mjIn ((72 + (3 * x1)) + x2) 108 = true
          · exact q9
          · rw [if_neg q9] at h; cases h
        rw [if_pos hk111] at h
        refine pG_ias rfl (by rfl) hk111 (?_ : pG 299 136 [some (.ref 211), some (.int x1), some (.int x2), some (.int x3), some (.int x4), some (.int x5), some (.int x6), some (.int x7), some (.int x8), some (.int x9)] [] (mjTo (zSi Z 239 (mjIx ((72 + (3 * x1)) + x2)) x5)) _)
        rw [mjLet] at h
        generalize zSi Z 239 (mjIx ((72 + (3 * x1)) + x2)) x5 = Z112 at h ⊢
        refine pG_many 1 (pc1 := 138) (L1 := [some (.ref 211), some (.int x1), some (.int x2), some (.int x3), some (.int x4), some (.int x5), some (.int x6), some (.int x7), some (.int x8), some (.int x9)]) (st1 := [.int x4]) (M1 := mjTo Z112) rfl ?_
        by_cases hc113 : mjCmp .ne x4 0 = true
        · rw [if_pos hc113] at h
          refine pG_ift (t := 146) rfl rfl hc113 ?_
          refine pG_many 2 (pc1 := 149) (L1 := [some (.ref 211), some (.int x1), some (.int x2), some (.int x3), some (.int x4), some (.int x5), some (.int x6), some (.int x7), some (.int x8), some (.int x9)]) (st1 := [.int 1, .int x4]) (M1 := mjTo Z112) rfl ?_
          by_cases hc114 : mjCmp .ne x4 1 = true
          · rw [if_pos hc114] at h
            refine pG_cmt (t := 157) rfl rfl hc114 ?_
            refine pG_many 1 (pc1 := 159) (L1 := [some (.ref 211), some (.int x1), some (.int x2), some (.int x3), some (.int x4), some (.int x5), some (.int x6), some (.int x7), some (.int x8), some (.int x9)]) (st1 := [.int x8]) (M1 := mjTo Z112) rfl ?_
            simp only [Option.some.injEq, Prod.mk.injEq] at h
            obtain ⟨rfl, rfl⟩ := h
            exact pG_ret (r := some (.int x8)) rfl ⟨rfl, rfl⟩
          · rw [if_neg hc114] at h
            refine pG_cmf (t := 157) rfl rfl hc114 ?_
            refine pG_many 2 (pc1 := 159) (L1 := [some (.ref 211), some (.int x1), some (.int x2), some (.int x3), some (.int x4), some (.int x5), some (.int x6), some (.int x7), some (.int x8), some (.int x9)]) (st1 := [.int x7]) (M1 := mjTo Z112) rfl ?_
            simp only [Option.some.injEq, Prod.mk.injEq] at h
            obtain ⟨rfl, rfl⟩ := h
            exact pG_ret (r := some (.int x7)) rfl ⟨rfl, rfl⟩
        · rw [if_neg hc113] at h
          refine pG_iff (t := 146) rfl rfl hc113 ?_
          refine pG_many 2 (pc1 := 159) (L1 := [some (.ref 211), some (.int x1), some (.int x2), some (.int x3), some (.int x4), some (.int x5), some (.int x6), some (.int x7), some (.int x8), some (.int x9)]) (st1 := [.int x6]) (M1 := mjTo Z112) rfl ?_
          simp only [Option.some.injEq, Prod.mk.injEq] at h
          obtain ⟨rfl, rfl⟩ := h
          exact pG_ret (r := some (.int x6)) rfl ⟨rfl, rfl⟩
      · rw [if_neg hc110] at h
        refine pG_cmf (t := 121) rfl rfl hc110 ?_
        refine pG_many 1 (pc1 := 67) (L1 := [some (.ref 211), some (.int x1), some (.int x2), some (.int x3), some (.int x4), some (.int x5), some (.int x6), some (.int x7), some (.int x8), some (.int x9)]) (st1 := [.ref 211]) (M1 := mjTo Z) rfl ?_
        refine pG_getR (ci := 12) (f := 54) (b := 239) rfl rfl rfl (by rfl) rfl ?_
        refine pG_many 8 (pc1 := 80) (L1 := [some (.ref 211), some (.int x1), some (.int x2), some (.int x3), some (.int x4), some (.int x5), some (.int x6), some (.int x7), some (.int x8), some (.int x9)]) (st1 := [.int x9, .int ((72 + (3 * x1)) + x2), .ref 239]) (M1 := mjTo Z) rfl ?_
        have hk115 : mjIn ((72 + (3 * x1)) + x2) 108 = true := by
          by_cases q9 : mjIn ((72 + (3 * x1)) + x2) 108 = true
          · exact q9
          · rw [if_neg q9] at h; cases h
        rw [if_pos hk115] at h
        refine pG_ias rfl (by rfl) hk115 (?_ : pG 299 81 [some (.ref 211), some (.int x1), some (.int x2), some (.int x3), some (.int x4), some (.int x5), some (.int x6), some (.int x7), some (.int x8), some (.int x9)] [] (mjTo (zSi Z 239 (mjIx ((72 + (3 * x1)) + x2)) x9)) _)
        rw [mjLet] at h
        generalize zSi Z 239 (mjIx ((72 + (3 * x1)) + x2)) x9 = Z116 at h ⊢
        refine pG_many 2 (pc1 := 83) (L1 := [some (.ref 211), some (.int x1), some (.int x2), some (.int x3), some (.int x4), some (.int x5), some (.int x6), some (.int x7), some (.int x8), some (.int x9)]) (st1 := [.int x1, .ref 211]) (M1 := mjTo Z116) rfl ?_
        cases hq117 : f298_firstRule x1 Z116 with
        | none => rw [hq117] at h; cases h
        | some w =>
          obtain ⟨v118, Z119⟩ := w
          rw [hq117, mjBd_some] at h
          refine pG_callV (k2 := 298) (As := [.ref 211, .int x1]) (rest := []) rfl rfl rfl rfl rfl (by rfl) (by decide) (f298_firstRule_ok hq117) ?_
          rintro r9 M9 ⟨rfl, rfl⟩
          show pG 299 86 [some (.ref 211), some (.int x1), some (.int x2), some (.int x3), some (.int x4), some (.int x5), some (.int x6), some (.int x7), some (.int x8), some (.int x9)] [.int v118] (mjTo Z119) _
          refine pG_many 1 (pc1 := 87) (L1 := [some (.ref 211), some (.int x1), some (.int x2), some (.int x3), some (.int x4), some (.int x5), some (.int x6), some (.int x7), some (.int x8), some (.int x9)]) (st1 := [.int ((-1)), .int v118]) (M1 := mjTo Z119) rfl ?_
          by_cases hc120 : mjCmp .eq v118 ((-1)) = true
          · rw [if_pos hc120] at h
            refine pG_cmt (t := 93) rfl rfl hc120 ?_
            refine pG_many 3 (pc1 := 99) (L1 := [some (.ref 211), some (.int x1), some (.int x2), some (.int x3), some (.int x4), some (.int x5), some (.int (x6 + 1)), some (.int x7), some (.int x8), some (.int x9)]) (st1 := [.int ((-1)), .int x7]) (M1 := mjTo Z119) rfl ?_
            by_cases hc121 : mjCmp .ne x7 ((-1)) = true
            · rw [if_pos hc121] at h
              refine pG_cmt (t := 107) rfl rfl hc121 ?_
              refine pG_many 6 (pc1 := 60) (L1 := [some (.ref 211), some (.int x1), some (.int x2), some (.int x3), some (.int x4), some (.int x5), some (.int (x6 + 1)), some (.int x7), some (.int x9), some (.int (x9 + 1))]) (st1 := []) (M1 := mjTo Z119) rfl ?_
              exact f299_without_h60_ok n x1 x2 x3 x4 x5 (x6 + 1) x7 x9 (x9 + 1) Z119 v9 Z9 h
            · rw [if_neg hc121] at h
              refine pG_cmf (t := 107) rfl rfl hc121 ?_
              refine pG_many 7 (pc1 := 60) (L1 := [some (.ref 211), some (.int x1), some (.int x2), some (.int x3), some (.int x4), some (.int x5), some (.int (x6 + 1)), some (.int x9), some (.int x9), some (.int (x9 + 1))]) (st1 := []) (M1 := mjTo Z119) rfl ?_
              exact f299_without_h60_ok n x1 x2 x3 x4 x5 (x6 + 1) x9 x9 (x9 + 1) Z119 v9 Z9 h
          · rw [if_neg hc120] at h
            refine pG_cmf (t := 93) rfl rfl hc120 ?_
            refine pG_many 3 (pc1 := 60) (L1 := [some (.ref 211), some (.int x1), some (.int x2), some (.int x3), some (.int x4), some (.int x5), some (.int x6), some (.int x7), some (.int x8), some (.int (x9 + 1))]) (st1 := []) (M1 := mjTo Z119) rfl ?_
            exact f299_without_h60_ok n x1 x2 x3 x4 x5 x6 x7 x8 (x9 + 1) Z119 v9 Z9 h
def f299_without (p0 : Int32) (p1 : Int32) (p2 : Int32) (p3 : Int32) (Z : mjZt) : Option (Int32 × mjZt) :=
  mjBp (f195_isIn (Int32.toInt64 p0) 0 (Int32.toInt64 ((Z.1 211 40) - 1)) Z) fun v102 =>
  if mjCmp .eq v102 0 = true then
    some ((-2000000), Z)
  else
    mjBp (f195_isIn (Int32.toInt64 p3) 0 2 Z) fun v106 =>
    if mjCmp .ne v106 0 = true then
      if mjIn ((72 + (3 * p0)) + p1) 108 = true then
      f299_without_h60 mjF p0 p1 p2 p3 (Z.1 239 (mjIx ((72 + (3 * p0)) + p1))) 0 ((-1)) ((-1)) 0 Z
      else none
    else
      some ((-2000000), Z)
set_option maxRecDepth 4000 in
theorem f299_without_ok {p0 : Int32} {p1 : Int32} {p2 : Int32} {p3 : Int32} {Z : mjZt} {v9 : Int32} {Z9 : mjZt} (h : f299_without p0 p1 p2 p3 Z = some (v9, Z9)) : pG 299 0 (mjEnt [.ref 211, .int p0, .int p1, .int p2, .int p3] (mjML 299)) [] (mjTo Z) (fun r M1 => r = some (.int v9) ∧ M1 = mjTo Z9) := by
  unfold f299_without at h
  show pG 299 0 [some (.ref 211), some (.int p0), some (.int p1), some (.int p2), some (.int p3), none, none, none, none, none] [] (mjTo Z) _
  refine pG_many 4 (pc1 := 4) (L1 := [some (.ref 211), some (.int p0), some (.int p1), some (.int p2), some (.int p3), none, none, none, none, none]) (st1 := [.ref 211, .long 0, .long (Int32.toInt64 p0)]) (M1 := mjTo Z) rfl ?_
  refine pG_getI (ci := 12) (f := 40) rfl rfl (Or.inl rfl) (by rfl) ?_
  refine pG_many 3 (pc1 := 10) (L1 := [some (.ref 211), some (.int p0), some (.int p1), some (.int p2), some (.int p3), none, none, none, none, none]) (st1 := [.long (Int32.toInt64 ((Z.1 211 40) - 1)), .long 0, .long (Int32.toInt64 p0)]) (M1 := mjTo Z) rfl ?_
  cases hq101 : f195_isIn (Int32.toInt64 p0) 0 (Int32.toInt64 ((Z.1 211 40) - 1)) Z with
  | none => rw [hq101] at h; cases h
  | some v102 =>
    rw [hq101, mjBp_some] at h
    refine pG_call (k2 := 195) (As := [.long (Int32.toInt64 p0), .long 0, .long (Int32.toInt64 ((Z.1 211 40) - 1))]) (rest := []) rfl (by decide) (f195_isIn_ok hq101) ?_
    rintro r9 M9 ⟨rfl, rfl⟩
    show pG 299 13 [some (.ref 211), some (.int p0), some (.int p1), some (.int p2), some (.int p3), none, none, none, none, none] [.int v102] (mjTo Z) _
    by_cases hc104 : mjCmp .eq v102 0 = true
    · rw [if_pos hc104] at h
      refine pG_ift (t := 29) rfl rfl hc104 ?_
      refine pG_many 1 (pc1 := 32) (L1 := [some (.ref 211), some (.int p0), some (.int p1), some (.int p2), some (.int p3), none, none, none, none, none]) (st1 := [.int ((-2000000))]) (M1 := mjTo Z) rfl ?_
      simp only [Option.some.injEq, Prod.mk.injEq] at h
      obtain ⟨rfl, rfl⟩ := h
      exact pG_ret (r := some (.int ((-2000000)))) rfl ⟨rfl, rfl⟩
    · rw [if_neg hc104] at h
      refine pG_iff (t := 29) rfl rfl hc104 ?_
      refine pG_many 4 (pc1 := 23) (L1 := [some (.ref 211), some (.int p0), some (.int p1), some (.int p2), some (.int p3), none, none, none, none, none]) (st1 := [.long 2, .long 0, .long (Int32.toInt64 p3)]) (M1 := mjTo Z) rfl ?_
      cases hq105 : f195_isIn (Int32.toInt64 p3) 0 2 Z with
      | none => rw [hq105] at h; cases h
      | some v106 =>
        rw [hq105, mjBp_some] at h
        refine pG_call (k2 := 195) (As := [.long (Int32.toInt64 p3), .long 0, .long 2]) (rest := []) rfl (by decide) (f195_isIn_ok hq105) ?_
        rintro r9 M9 ⟨rfl, rfl⟩
        show pG 299 26 [some (.ref 211), some (.int p0), some (.int p1), some (.int p2), some (.int p3), none, none, none, none, none] [.int v106] (mjTo Z) _
        by_cases hc108 : mjCmp .ne v106 0 = true
        · rw [if_pos hc108] at h
          refine pG_ift (t := 33) rfl rfl hc108 ?_
          refine pG_many 1 (pc1 := 34) (L1 := [some (.ref 211), some (.int p0), some (.int p1), some (.int p2), some (.int p3), none, none, none, none, none]) (st1 := [.ref 211]) (M1 := mjTo Z) rfl ?_
          refine pG_getR (ci := 12) (f := 54) (b := 239) rfl rfl rfl (by rfl) rfl ?_
          refine pG_many 7 (pc1 := 45) (L1 := [some (.ref 211), some (.int p0), some (.int p1), some (.int p2), some (.int p3), none, none, none, none, none]) (st1 := [.int ((72 + (3 * p0)) + p1), .ref 239]) (M1 := mjTo Z) rfl ?_
          have hk109 : mjIn ((72 + (3 * p0)) + p1) 108 = true := by
            by_cases q9 : mjIn ((72 + (3 * p0)) + p1) 108 = true
            · exact q9
            · rw [if_neg q9] at h; cases h
          rw [if_pos hk109] at h
          refine pG_ial rfl (by rfl) hk109 ?_
          refine pG_many 9 (pc1 := 60) (L1 := [some (.ref 211), some (.int p0), some (.int p1), some (.int p2), some (.int p3), some (.int (Z.1 239 (mjIx ((72 + (3 * p0)) + p1)))), some (.int 0), some (.int ((-1))), some (.int ((-1))), some (.int 0)]) (st1 := []) (M1 := mjTo Z) rfl ?_
          exact f299_without_h60_ok mjF p0 p1 p2 p3 (Z.1 239 (mjIx ((72 + (3 * p0)) + p1))) 0 ((-1)) ((-1)) 0 Z v9 Z9 h
        · rw [if_neg hc108] at h
          refine pG_iff (t := 33) rfl rfl hc108 ?_
          refine pG_many 1 (pc1 := 32) (L1 := [some (.ref 211), some (.int p0), some (.int p1), some (.int p2), some (.int p3), none, none, none, none, none]) (st1 := [.int ((-2000000))]) (M1 := mjTo Z) rfl ?_
          simp only [Option.some.injEq, Prod.mk.injEq] at h
          obtain ⟨rfl, rfl⟩ := h
          exact pG_ret (r := some (.int ((-2000000)))) rfl ⟨rfl, rfl⟩
def f300_clean (p0 : Int32) (p1 : Int32) (Z : mjZt) : Option (Int32 × mjZt) :=
  mjBd (f299_without p0 1 99 p1 Z) fun v102 Z103 =>
  some (v102, Z103)
set_option maxRecDepth 4000 in
theorem f300_clean_ok {p0 : Int32} {p1 : Int32} {Z : mjZt} {v9 : Int32} {Z9 : mjZt} (h : f300_clean p0 p1 Z = some (v9, Z9)) : pG 300 0 (mjEnt [.ref 211, .int p0, .int p1] (mjML 300)) [] (mjTo Z) (fun r M1 => r = some (.int v9) ∧ M1 = mjTo Z9) := by
  unfold f300_clean at h
  show pG 300 0 [some (.ref 211), some (.int p0), some (.int p1)] [] (mjTo Z) _
  refine pG_many 5 (pc1 := 6) (L1 := [some (.ref 211), some (.int p0), some (.int p1)]) (st1 := [.int p1, .int 99, .int 1, .int p0, .ref 211]) (M1 := mjTo Z) rfl ?_
  cases hq101 : f299_without p0 1 99 p1 Z with
  | none => rw [hq101] at h; cases h
  | some w =>
    obtain ⟨v102, Z103⟩ := w
    rw [hq101, mjBd_some] at h
    refine pG_callV (k2 := 299) (As := [.ref 211, .int p0, .int 1, .int 99, .int p1]) (rest := []) rfl rfl rfl rfl rfl (by rfl) (by decide) (f299_without_ok hq101) ?_
    rintro r9 M9 ⟨rfl, rfl⟩
    show pG 300 9 [some (.ref 211), some (.int p0), some (.int p1)] [.int v102] (mjTo Z103) _
    simp only [Option.some.injEq, Prod.mk.injEq] at h
    obtain ⟨rfl, rfl⟩ := h
    exact pG_ret (r := some (.int v102)) rfl ⟨rfl, rfl⟩
def f301_free (p0 : Int32) (p1 : Int32) (Z : mjZt) : Option (Int32 × mjZt) :=
  mjBd (f299_without p0 0 999 p1 Z) fun v102 Z103 =>
  some (v102, Z103)
set_option maxRecDepth 4000 in
theorem f301_free_ok {p0 : Int32} {p1 : Int32} {Z : mjZt} {v9 : Int32} {Z9 : mjZt} (h : f301_free p0 p1 Z = some (v9, Z9)) : pG 301 0 (mjEnt [.ref 211, .int p0, .int p1] (mjML 301)) [] (mjTo Z) (fun r M1 => r = some (.int v9) ∧ M1 = mjTo Z9) := by
  unfold f301_free at h
  show pG 301 0 [some (.ref 211), some (.int p0), some (.int p1)] [] (mjTo Z) _
  refine pG_many 5 (pc1 := 7) (L1 := [some (.ref 211), some (.int p0), some (.int p1)]) (st1 := [.int p1, .int 999, .int 0, .int p0, .ref 211]) (M1 := mjTo Z) rfl ?_
  cases hq101 : f299_without p0 0 999 p1 Z with
  | none => rw [hq101] at h; cases h
  | some w =>
    obtain ⟨v102, Z103⟩ := w
    rw [hq101, mjBd_some] at h
    refine pG_callV (k2 := 299) (As := [.ref 211, .int p0, .int 0, .int 999, .int p1]) (rest := []) rfl rfl rfl rfl rfl (by rfl) (by decide) (f299_without_ok hq101) ?_
    rintro r9 M9 ⟨rfl, rfl⟩
    show pG 301 10 [some (.ref 211), some (.int p0), some (.int p1)] [.int v102] (mjTo Z103) _
    simp only [Option.some.injEq, Prod.mk.injEq] at h
    obtain ⟨rfl, rfl⟩ := h
    exact pG_ret (r := some (.int v102)) rfl ⟨rfl, rfl⟩
def f302_laysStruck_j70 (R : Int32 → mjZt → Option (Unit × mjZt)) (x1 : Int32) (s1 : Int32) (s2 : Int32) (Z : mjZt) : Option (Unit × mjZt) :=
  if mjIn s1 48 = true then
  if s2 = 0 ∨ s2 = 1 then
  mjLet (zSi Z 247 (mjIx s1) s2) fun Z112 =>
  if mjIn x1 48 = true then
  if mjCmp .ne (Z112.1 247 (mjIx x1)) 0 = true then
    mjBp (f274_teamOf x1 Z112) fun v116 =>
    if mjIn v116 6 = true then
    mjLet (zSi Z112 248 (mjIx v116) 1) fun Z119 =>
    mjBp (f273_kindOf x1 Z119) fun v121 =>
    if mjCmp .eq v121 3 = true then
      mjBp (f275_otherOf x1 Z119) fun v125 =>
      if mjIn v125 6 = true then
      mjLet (zSi Z119 249 (mjIx v125) 1) fun Z128 =>
      mjBp (f275_otherOf x1 Z128) fun v130 =>
      if mjIn v130 6 = true then
      mjBp (f277_sizeOf x1 Z128) fun v134 =>
      mjLet (zSi Z128 250 (mjIx v130) ((Z128.1 250 (mjIx v130)) - v134)) fun Z136 =>
      R (x1 + 1) Z136
      else none
      else none
    else
      R (x1 + 1) Z119
    else none
  else
    R (x1 + 1) Z112
  else none
  else none
  else none
set_option maxRecDepth 4000 in
theorem f302_laysStruck_j70_ok (R : Int32 → mjZt → Option (Unit × mjZt)) (hR : ∀ (x1 : Int32) (Z : mjZt) (v9 : Unit) (Z9 : mjZt), R x1 Z = some (v9, Z9) → pG 302 43 [some (.ref 211), some (.int x1)] [] (mjTo Z) (fun r M1 => r = none ∧ M1 = mjTo Z9)) (x1 : Int32) (s1 : Int32) (s2 : Int32) (Z : mjZt) (v9 : Unit) (Z9 : mjZt) (h : f302_laysStruck_j70 R x1 s1 s2 Z = some (v9, Z9)) : pG 302 70 [some (.ref 211), some (.int x1)] [.int s2, .int s1, .ref 247] (mjTo Z) (fun r M1 => r = none ∧ M1 = mjTo Z9) := by
  unfold f302_laysStruck_j70 at h
  have hk110 : mjIn s1 48 = true := by
    by_cases q9 : mjIn s1 48 = true
    · exact q9
    · rw [if_neg q9] at h; cases h
  rw [if_pos hk110] at h
  have hk111 : s2 = 0 ∨ s2 = 1 := by
    by_cases q9 : s2 = 0 ∨ s2 = 1
    · exact q9
    · rw [if_neg q9] at h; cases h
  rw [if_pos hk111] at h
  refine pG_bas rfl (by rfl) hk110 hk111 (?_ : pG 302 71 [some (.ref 211), some (.int x1)] [] (mjTo (zSi Z 247 (mjIx s1) s2)) _)
  rw [mjLet] at h
  generalize zSi Z 247 (mjIx s1) s2 = Z112 at h ⊢
  refine pG_many 1 (pc1 := 72) (L1 := [some (.ref 211), some (.int x1)]) (st1 := [.ref 211]) (M1 := mjTo Z112) rfl ?_
  refine pG_getR (ci := 12) (f := 68) (b := 247) rfl rfl rfl (by rfl) rfl ?_
  refine pG_many 1 (pc1 := 76) (L1 := [some (.ref 211), some (.int x1)]) (st1 := [.int x1, .ref 247]) (M1 := mjTo Z112) rfl ?_
  have hk113 : mjIn x1 48 = true := by
    by_cases q9 : mjIn x1 48 = true
    · exact q9
    · rw [if_neg q9] at h; cases h
  rw [if_pos hk113] at h
  refine pG_bal rfl (by rfl) hk113 ?_
  by_cases hc114 : mjCmp .ne (Z112.1 247 (mjIx x1)) 0 = true
  · rw [if_pos hc114] at h
    refine pG_ift (t := 83) rfl rfl hc114 ?_
    refine pG_many 1 (pc1 := 84) (L1 := [some (.ref 211), some (.int x1)]) (st1 := [.ref 211]) (M1 := mjTo Z112) rfl ?_
    refine pG_getR (ci := 12) (f := 69) (b := 248) rfl rfl rfl (by rfl) rfl ?_
    refine pG_many 2 (pc1 := 89) (L1 := [some (.ref 211), some (.int x1)]) (st1 := [.int x1, .ref 211, .ref 248]) (M1 := mjTo Z112) rfl ?_
    cases hq115 : f274_teamOf x1 Z112 with
    | none => rw [hq115] at h; cases h
    | some v116 =>
      rw [hq115, mjBp_some] at h
      refine pG_callV (k2 := 274) (As := [.ref 211, .int x1]) (rest := [.ref 248]) rfl rfl rfl rfl rfl (by rfl) (by decide) (f274_teamOf_ok hq115) ?_
      rintro r9 M9 ⟨rfl, rfl⟩
      show pG 302 92 [some (.ref 211), some (.int x1)] [.int v116, .ref 248] (mjTo Z112) _
      refine pG_many 1 (pc1 := 93) (L1 := [some (.ref 211), some (.int x1)]) (st1 := [.int 1, .int v116, .ref 248]) (M1 := mjTo Z112) rfl ?_
      have hk118 : mjIn v116 6 = true := by
        by_cases q9 : mjIn v116 6 = true
        · exact q9
        · rw [if_neg q9] at h; cases h
      rw [if_pos hk118] at h
      refine pG_bas rfl (by rfl) hk118 (Or.inr rfl) (?_ : pG 302 94 [some (.ref 211), some (.int x1)] [] (mjTo (zSi Z112 248 (mjIx v116) 1)) _)
      rw [mjLet] at h
      generalize zSi Z112 248 (mjIx v116) 1 = Z119 at h ⊢
      refine pG_many 2 (pc1 := 96) (L1 := [some (.ref 211), some (.int x1)]) (st1 := [.int x1, .ref 211]) (M1 := mjTo Z119) rfl ?_
      cases hq120 : f273_kindOf x1 Z119 with
      | none => rw [hq120] at h; cases h
      | some v121 =>
        rw [hq120, mjBp_some] at h
        refine pG_callV (k2 := 273) (As := [.ref 211, .int x1]) (rest := []) rfl rfl rfl rfl rfl (by rfl) (by decide) (f273_kindOf_ok hq120) ?_
        rintro r9 M9 ⟨rfl, rfl⟩
        show pG 302 99 [some (.ref 211), some (.int x1)] [.int v121] (mjTo Z119) _
        refine pG_many 1 (pc1 := 100) (L1 := [some (.ref 211), some (.int x1)]) (st1 := [.int 3, .int v121]) (M1 := mjTo Z119) rfl ?_
        by_cases hc123 : mjCmp .eq v121 3 = true
        · rw [if_pos hc123] at h
          refine pG_cmt (t := 106) rfl rfl hc123 ?_
          refine pG_many 1 (pc1 := 107) (L1 := [some (.ref 211), some (.int x1)]) (st1 := [.ref 211]) (M1 := mjTo Z119) rfl ?_
          refine pG_getR (ci := 12) (f := 70) (b := 249) rfl rfl rfl (by rfl) rfl ?_
          refine pG_many 2 (pc1 := 112) (L1 := [some (.ref 211), some (.int x1)]) (st1 := [.int x1, .ref 211, .ref 249]) (M1 := mjTo Z119) rfl ?_
          cases hq124 : f275_otherOf x1 Z119 with
          | none => rw [hq124] at h; cases h
          | some v125 =>
            rw [hq124, mjBp_some] at h
            refine pG_callV (k2 := 275) (As := [.ref 211, .int x1]) (rest := [.ref 249]) rfl rfl rfl rfl rfl (by rfl) (by decide) (f275_otherOf_ok hq124) ?_
            rintro r9 M9 ⟨rfl, rfl⟩
            show pG 302 115 [some (.ref 211), some (.int x1)] [.int v125, .ref 249] (mjTo Z119) _
            refine pG_many 1 (pc1 := 116) (L1 := [some (.ref 211), some (.int x1)]) (st1 := [.int 1, .int v125, .ref 249]) (M1 := mjTo Z119) rfl ?_
            have hk127 : mjIn v125 6 = true := by
              by_cases q9 : mjIn v125 6 = true
              · exact q9
              · rw [if_neg q9] at h; cases h
            rw [if_pos hk127] at h
            refine pG_bas rfl (by rfl) hk127 (Or.inr rfl) (?_ : pG 302 117 [some (.ref 211), some (.int x1)] [] (mjTo (zSi Z119 249 (mjIx v125) 1)) _)
            rw [mjLet] at h
            generalize zSi Z119 249 (mjIx v125) 1 = Z128 at h ⊢
            refine pG_many 1 (pc1 := 118) (L1 := [some (.ref 211), some (.int x1)]) (st1 := [.ref 211]) (M1 := mjTo Z128) rfl ?_
            refine pG_getR (ci := 12) (f := 71) (b := 250) rfl rfl rfl (by rfl) rfl ?_
            refine pG_many 2 (pc1 := 123) (L1 := [some (.ref 211), some (.int x1)]) (st1 := [.int x1, .ref 211, .ref 250]) (M1 := mjTo Z128) rfl ?_
            cases hq129 : f275_otherOf x1 Z128 with
            | none => rw [hq129] at h; cases h
            | some v130 =>
              rw [hq129, mjBp_some] at h
              refine pG_callV (k2 := 275) (As := [.ref 211, .int x1]) (rest := [.ref 250]) rfl rfl rfl rfl rfl (by rfl) (by decide) (f275_otherOf_ok hq129) ?_
              rintro r9 M9 ⟨rfl, rfl⟩
              show pG 302 126 [some (.ref 211), some (.int x1)] [.int v130, .ref 250] (mjTo Z128) _
              refine pG_many 1 (pc1 := 127) (L1 := [some (.ref 211), some (.int x1)]) (st1 := [.int v130, .ref 250, .int v130, .ref 250]) (M1 := mjTo Z128) rfl ?_
              have hk132 : mjIn v130 6 = true := by
                by_cases q9 : mjIn v130 6 = true
                · exact q9
                · rw [if_neg q9] at h; cases h
              rw [if_pos hk132] at h
              refine pG_ial rfl (by rfl) hk132 ?_
              refine pG_many 2 (pc1 := 130) (L1 := [some (.ref 211), some (.int x1)]) (st1 := [.int x1, .ref 211, .int (Z128.1 250 (mjIx v130)), .int v130, .ref 250]) (M1 := mjTo Z128) rfl ?_
              cases hq133 : f277_sizeOf x1 Z128 with
              | none => rw [hq133] at h; cases h
              | some v134 =>
                rw [hq133, mjBp_some] at h
                refine pG_callV (k2 := 277) (As := [.ref 211, .int x1]) (rest := [.int (Z128.1 250 (mjIx v130)), .int v130, .ref 250]) rfl rfl rfl rfl rfl (by rfl) (by decide) (f277_sizeOf_ok hq133) ?_
                rintro r9 M9 ⟨rfl, rfl⟩
                show pG 302 133 [some (.ref 211), some (.int x1)] [.int v134, .int (Z128.1 250 (mjIx v130)), .int v130, .ref 250] (mjTo Z128) _
                refine pG_many 1 (pc1 := 134) (L1 := [some (.ref 211), some (.int x1)]) (st1 := [.int ((Z128.1 250 (mjIx v130)) - v134), .int v130, .ref 250]) (M1 := mjTo Z128) rfl ?_
                refine pG_ias rfl (by rfl) hk132 (?_ : pG 302 135 [some (.ref 211), some (.int x1)] [] (mjTo (zSi Z128 250 (mjIx v130) ((Z128.1 250 (mjIx v130)) - v134))) _)
                rw [mjLet] at h
                generalize zSi Z128 250 (mjIx v130) ((Z128.1 250 (mjIx v130)) - v134) = Z136 at h ⊢
                refine pG_many 2 (pc1 := 43) (L1 := [some (.ref 211), some (.int (x1 + 1))]) (st1 := []) (M1 := mjTo Z136) rfl ?_
                exact hR (x1 + 1) Z136 v9 Z9 h
        · rw [if_neg hc123] at h
          refine pG_cmf (t := 106) rfl rfl hc123 ?_
          refine pG_many 3 (pc1 := 43) (L1 := [some (.ref 211), some (.int (x1 + 1))]) (st1 := []) (M1 := mjTo Z119) rfl ?_
          exact hR (x1 + 1) Z119 v9 Z9 h
  · rw [if_neg hc114] at h
    refine pG_iff (t := 83) rfl rfl hc114 ?_
    refine pG_many 3 (pc1 := 43) (L1 := [some (.ref 211), some (.int (x1 + 1))]) (st1 := []) (M1 := mjTo Z112) rfl ?_
    exact hR (x1 + 1) Z112 v9 Z9 h
def f302_laysStruck_h43 : Nat → Int32 → mjZt → Option (Unit × mjZt)
  | 0, _, _ => none
  | n + 1, x1, Z =>
    mjBp (f251_allActs  Z) fun v103 =>
    if mjCmp .ge x1 v103 = true then
      some ((), Z)
    else
      mjBd (f298_firstRule x1 Z) fun v107 Z108 =>
      if mjCmp .eq v107 ((-1)) = true then
        f302_laysStruck_j70 (f302_laysStruck_h43 n) x1 x1 0 Z108
      else
        f302_laysStruck_j70 (f302_laysStruck_h43 n) x1 x1 1 Z108
set_option maxRecDepth 4000 in
theorem f302_laysStruck_h43_ok : ∀ (n : Nat) (x1 : Int32) (Z : mjZt) (v9 : Unit) (Z9 : mjZt), f302_laysStruck_h43 n x1 Z = some (v9, Z9) → pG 302 43 [some (.ref 211), some (.int x1)] [] (mjTo Z) (fun r M1 => r = none ∧ M1 = mjTo Z9)
  | 0, x1, Z, v9, Z9, h => by rw [f302_laysStruck_h43] at h; cases h
  | n + 1, x1, Z, v9, Z9, h => by
      rw [f302_laysStruck_h43] at h
      refine pG_many 2 (pc1 := 45) (L1 := [some (.ref 211), some (.int x1)]) (st1 := [.ref 211, .int x1]) (M1 := mjTo Z) rfl ?_
      cases hq102 : f251_allActs  Z with
      | none => rw [hq102] at h; cases h
      | some v103 =>
        rw [hq102, mjBp_some] at h
        refine pG_callV (k2 := 251) (As := [.ref 211]) (rest := [.int x1]) rfl rfl rfl rfl rfl (by rfl) (by decide) (f251_allActs_ok hq102) ?_
        rintro r9 M9 ⟨rfl, rfl⟩
        show pG 302 48 [some (.ref 211), some (.int x1)] [.int v103, .int x1] (mjTo Z) _
        by_cases hc105 : mjCmp .ge x1 v103 = true
        · rw [if_pos hc105] at h
          refine pG_cmt (t := 141) rfl rfl hc105 ?_
          simp only [Option.some.injEq, Prod.mk.injEq] at h
          obtain ⟨-, rfl⟩ := h
          exact pG_ret (r := none) rfl ⟨rfl, rfl⟩
        · rw [if_neg hc105] at h
          refine pG_cmf (t := 141) rfl rfl hc105 ?_
          refine pG_many 1 (pc1 := 52) (L1 := [some (.ref 211), some (.int x1)]) (st1 := [.ref 211]) (M1 := mjTo Z) rfl ?_
          refine pG_getR (ci := 12) (f := 68) (b := 247) rfl rfl rfl (by rfl) rfl ?_
          refine pG_many 3 (pc1 := 58) (L1 := [some (.ref 211), some (.int x1)]) (st1 := [.int x1, .ref 211, .int x1, .ref 247]) (M1 := mjTo Z) rfl ?_
          cases hq106 : f298_firstRule x1 Z with
          | none => rw [hq106] at h; cases h
          | some w =>
            obtain ⟨v107, Z108⟩ := w
            rw [hq106, mjBd_some] at h
            refine pG_callV (k2 := 298) (As := [.ref 211, .int x1]) (rest := [.int x1, .ref 247]) rfl rfl rfl rfl rfl (by rfl) (by decide) (f298_firstRule_ok hq106) ?_
            rintro r9 M9 ⟨rfl, rfl⟩
            show pG 302 61 [some (.ref 211), some (.int x1)] [.int v107, .int x1, .ref 247] (mjTo Z108) _
            refine pG_many 1 (pc1 := 62) (L1 := [some (.ref 211), some (.int x1)]) (st1 := [.int ((-1)), .int v107, .int x1, .ref 247]) (M1 := mjTo Z108) rfl ?_
            by_cases hc109 : mjCmp .eq v107 ((-1)) = true
            · rw [if_pos hc109] at h
              refine pG_cmt (t := 69) rfl rfl hc109 ?_
              refine pG_many 1 (pc1 := 70) (L1 := [some (.ref 211), some (.int x1)]) (st1 := [.int 0, .int x1, .ref 247]) (M1 := mjTo Z108) rfl ?_
              exact f302_laysStruck_j70_ok (f302_laysStruck_h43 n) (fun x1 Z v9 Z9 h => f302_laysStruck_h43_ok n x1 Z v9 Z9 h) x1 x1 0 Z108 v9 Z9 h
            · rw [if_neg hc109] at h
              refine pG_cmf (t := 69) rfl rfl hc109 ?_
              refine pG_many 2 (pc1 := 70) (L1 := [some (.ref 211), some (.int x1)]) (st1 := [.int 1, .int x1, .ref 247]) (M1 := mjTo Z108) rfl ?_
              exact f302_laysStruck_j70_ok (f302_laysStruck_h43 n) (fun x1 Z v9 Z9 h => f302_laysStruck_h43_ok n x1 Z v9 Z9 h) x1 x1 1 Z108 v9 Z9 h
def f302_laysStruck_h2 : Nat → Int32 → mjZt → Option (Unit × mjZt)
  | 0, _, _ => none
  | n + 1, x1, Z =>
    if mjCmp .ge x1 (Z.1 211 39) = true then
      f302_laysStruck_h43 mjF 0 Z
    else
      if mjIn x1 6 = true then
      mjLet (zSi Z 248 (mjIx x1) 0) fun Z138 =>
      mjLet (zSi Z138 249 (mjIx x1) 0) fun Z139 =>
      mjBp (f246_timeOf x1 Z139) fun v141 =>
      mjLet (zSi Z139 250 (mjIx x1) v141) fun Z143 =>
      f302_laysStruck_h2 n (x1 + 1) Z143
      else none
set_option maxRecDepth 4000 in
theorem f302_laysStruck_h2_ok : ∀ (n : Nat) (x1 : Int32) (Z : mjZt) (v9 : Unit) (Z9 : mjZt), f302_laysStruck_h2 n x1 Z = some (v9, Z9) → pG 302 2 [some (.ref 211), some (.int x1)] [] (mjTo Z) (fun r M1 => r = none ∧ M1 = mjTo Z9)
  | 0, x1, Z, v9, Z9, h => by rw [f302_laysStruck_h2] at h; cases h
  | n + 1, x1, Z, v9, Z9, h => by
      rw [f302_laysStruck_h2] at h
      refine pG_many 2 (pc1 := 4) (L1 := [some (.ref 211), some (.int x1)]) (st1 := [.ref 211, .int x1]) (M1 := mjTo Z) rfl ?_
      refine pG_getI (ci := 12) (f := 39) rfl rfl (Or.inl rfl) (by rfl) ?_
      by_cases hc101 : mjCmp .ge x1 (Z.1 211 39) = true
      · rw [if_pos hc101] at h
        refine pG_cmt (t := 41) rfl rfl hc101 ?_
        refine pG_many 2 (pc1 := 43) (L1 := [some (.ref 211), some (.int 0)]) (st1 := []) (M1 := mjTo Z) rfl ?_
        exact f302_laysStruck_h43_ok mjF 0 Z v9 Z9 h
      · rw [if_neg hc101] at h
        refine pG_cmf (t := 41) rfl rfl hc101 ?_
        refine pG_many 1 (pc1 := 11) (L1 := [some (.ref 211), some (.int x1)]) (st1 := [.ref 211]) (M1 := mjTo Z) rfl ?_
        refine pG_getR (ci := 12) (f := 69) (b := 248) rfl rfl rfl (by rfl) rfl ?_
        refine pG_many 2 (pc1 := 16) (L1 := [some (.ref 211), some (.int x1)]) (st1 := [.int 0, .int x1, .ref 248]) (M1 := mjTo Z) rfl ?_
        have hk137 : mjIn x1 6 = true := by
          by_cases q9 : mjIn x1 6 = true
          · exact q9
          · rw [if_neg q9] at h; cases h
        rw [if_pos hk137] at h
        refine pG_bas rfl (by rfl) hk137 (Or.inl rfl) (?_ : pG 302 17 [some (.ref 211), some (.int x1)] [] (mjTo (zSi Z 248 (mjIx x1) 0)) _)
        rw [mjLet] at h
        generalize zSi Z 248 (mjIx x1) 0 = Z138 at h ⊢
        refine pG_many 1 (pc1 := 18) (L1 := [some (.ref 211), some (.int x1)]) (st1 := [.ref 211]) (M1 := mjTo Z138) rfl ?_
        refine pG_getR (ci := 12) (f := 70) (b := 249) rfl rfl rfl (by rfl) rfl ?_
        refine pG_many 2 (pc1 := 23) (L1 := [some (.ref 211), some (.int x1)]) (st1 := [.int 0, .int x1, .ref 249]) (M1 := mjTo Z138) rfl ?_
        refine pG_bas rfl (by rfl) hk137 (Or.inl rfl) (?_ : pG 302 24 [some (.ref 211), some (.int x1)] [] (mjTo (zSi Z138 249 (mjIx x1) 0)) _)
        rw [mjLet] at h
        generalize zSi Z138 249 (mjIx x1) 0 = Z139 at h ⊢
        refine pG_many 1 (pc1 := 25) (L1 := [some (.ref 211), some (.int x1)]) (st1 := [.ref 211]) (M1 := mjTo Z139) rfl ?_
        refine pG_getR (ci := 12) (f := 71) (b := 250) rfl rfl rfl (by rfl) rfl ?_
        refine pG_many 3 (pc1 := 31) (L1 := [some (.ref 211), some (.int x1)]) (st1 := [.int x1, .ref 211, .int x1, .ref 250]) (M1 := mjTo Z139) rfl ?_
        cases hq140 : f246_timeOf x1 Z139 with
        | none => rw [hq140] at h; cases h
        | some v141 =>
          rw [hq140, mjBp_some] at h
          refine pG_callV (k2 := 246) (As := [.ref 211, .int x1]) (rest := [.int x1, .ref 250]) rfl rfl rfl rfl rfl (by rfl) (by decide) (f246_timeOf_ok hq140) ?_
          rintro r9 M9 ⟨rfl, rfl⟩
          show pG 302 34 [some (.ref 211), some (.int x1)] [.int v141, .int x1, .ref 250] (mjTo Z139) _
          refine pG_ias rfl (by rfl) hk137 (?_ : pG 302 35 [some (.ref 211), some (.int x1)] [] (mjTo (zSi Z139 250 (mjIx x1) v141)) _)
          rw [mjLet] at h
          generalize zSi Z139 250 (mjIx x1) v141 = Z143 at h ⊢
          refine pG_many 2 (pc1 := 2) (L1 := [some (.ref 211), some (.int (x1 + 1))]) (st1 := []) (M1 := mjTo Z143) rfl ?_
          exact f302_laysStruck_h2_ok n (x1 + 1) Z143 v9 Z9 h
def f302_laysStruck  (Z : mjZt) : Option (Unit × mjZt) :=
  f302_laysStruck_h2 mjF 0 Z
set_option maxRecDepth 4000 in
theorem f302_laysStruck_ok  {Z : mjZt} {v9 : Unit} {Z9 : mjZt} (h : f302_laysStruck  Z = some (v9, Z9)) : pG 302 0 (mjEnt [.ref 211] (mjML 302)) [] (mjTo Z) (fun r M1 => r = none ∧ M1 = mjTo Z9) := by
  unfold f302_laysStruck at h
  show pG 302 0 [some (.ref 211), none] [] (mjTo Z) _
  refine pG_many 2 (pc1 := 2) (L1 := [some (.ref 211), some (.int 0)]) (st1 := []) (M1 := mjTo Z) rfl ?_
  exact f302_laysStruck_h2_ok mjF 0 Z v9 Z9 h
