def f85_isSo_j62 (x5 : Int32) (Z : mjZt) : Option (Int32 × mjZt) :=
  mjBp (f21_longAt 192 (x5 - 1) Z) fun v110 =>
  if mjCmp .ne (lg_cmp v110 1) 0 = true then
    some (0, Z)
  else
    some (1, Z)
theorem f85_isSo_j62_ok (x5 : Int32) (d1 d2 d3 d4 d6 : Option Value) (Z : mjZt) (v9 : Int32) (Z9 : mjZt) (h : f85_isSo_j62 x5 Z = some (v9, Z9)) : pG 84 62 [some (.ref 190), d1, d2, d3, d4, some (.int x5), d6] [] (mjTo Z) (fun r M1 => r = some (.int v9) ∧ M1 = mjTo Z9) := by
  unfold f85_isSo_j62 at h
  refine pG_many 1 (pc1 := 63) (L1 := [some (.ref 190), d1, d2, d3, d4, some (.int x5), d6]) (st1 := [.ref 190]) (M1 := mjTo Z) (fun _ _ => rfl) ?_
  refine pG_getR (ci := 4) (f := 1) (b := 192) rfl rfl rfl (by rfl) (by decide) rfl ?_
  refine pG_many 3 (pc1 := 70) (L1 := [some (.ref 190), d1, d2, d3, d4, some (.int x5), d6]) (st1 := [.int (x5 - 1), .ref 192]) (M1 := mjTo Z) (fun _ _ => rfl) ?_
  cases hq109 : f21_longAt 192 (x5 - 1) Z with
  | none => rw [hq109] at h; cases h
  | some v110 =>
    rw [hq109, mjBp_some] at h
    refine pG_call (k2 := 21) (As := [.ref 192, .int (x5 - 1)]) (rest := []) (fun _ _ => rfl) (by decide) (by decide) (f21_longAt_ok hq109) ?_
    rintro r9 M9 ⟨rfl, rfl⟩
    show pG 84 73 [some (.ref 190), d1, d2, d3, d4, some (.int x5), d6] [.long v110] (mjTo Z) _
    refine pG_many 2 (pc1 := 75) (L1 := [some (.ref 190), d1, d2, d3, d4, some (.int x5), d6]) (st1 := [.int (lg_cmp v110 1)]) (M1 := mjTo Z) (fun _ _ => rfl) ?_
    by_cases hc112 : mjCmp .ne (lg_cmp v110 1) 0 = true
    · rw [if_pos hc112] at h
      refine pG_ift (t := 82) rfl rfl hc112 ?_
      refine pG_many 1 (pc1 := 83) (L1 := [some (.ref 190), d1, d2, d3, d4, some (.int x5), d6]) (st1 := [.int 0]) (M1 := mjTo Z) (fun _ _ => rfl) ?_
      simp only [Option.some.injEq, Prod.mk.injEq] at h
      obtain ⟨rfl, rfl⟩ := h
      exact pG_ret (r := some (.int 0)) rfl ⟨rfl, rfl⟩
    · rw [if_neg hc112] at h
      refine pG_iff (t := 82) rfl rfl hc112 ?_
      refine pG_many 2 (pc1 := 83) (L1 := [some (.ref 190), d1, d2, d3, d4, some (.int x5), d6]) (st1 := [.int 1]) (M1 := mjTo Z) (fun _ _ => rfl) ?_
      simp only [Option.some.injEq, Prod.mk.injEq] at h
      obtain ⟨rfl, rfl⟩ := h
      exact pG_ret (r := some (.int 1)) rfl ⟨rfl, rfl⟩
def f85_isSo_h20 : Nat → Nat → Int32 → Int32 → mjZt → Option (Int32 × mjZt)
  | 0, _, _, _, _ => none
  | n + 1, x1, x5, x6, Z =>
    if mjCmp .lt x6 0 = true then
      f85_isSo_j62 x5 Z
    else
      if mjCmp .ge x6 x5 = true then
        f85_isSo_j62 x5 Z
      else
        if mjCmp .ge x6 700 = true then
          f85_isSo_j62 x5 Z
        else
          mjBp (f84_work x1 x6 Z) fun v116 =>
          if mjIn x6 700 = true then
          mjLet (zSl Z 192 (mjIx x6) v116) fun Z119 =>
          f85_isSo_h20 n x1 x5 (x6 + 1) Z119
          else none
theorem f85_isSo_h20_ok : ∀ (n : Nat) (x1 : Nat) (x5 : Int32) (x6 : Int32) (d2 d3 d4 : Option Value) (Z : mjZt) (v9 : Int32) (Z9 : mjZt), f85_isSo_h20 n x1 x5 x6 Z = some (v9, Z9) → pG 84 20 [some (.ref 190), some (.ref x1), d2, d3, d4, some (.int x5), some (.int x6)] [] (mjTo Z) (fun r M1 => r = some (.int v9) ∧ M1 = mjTo Z9)
  | 0, x1, x5, x6, d2, d3, d4, Z, v9, Z9, h => by rw [f85_isSo_h20] at h; cases h
  | n + 1, x1, x5, x6, d2, d3, d4, Z, v9, Z9, h => by
      rw [f85_isSo_h20] at h
      refine pG_many 1 (pc1 := 22) (L1 := [some (.ref 190), some (.ref x1), d2, d3, d4, some (.int x5), some (.int x6)]) (st1 := [.int x6]) (M1 := mjTo Z) (fun _ _ => rfl) ?_
      by_cases hc108 : mjCmp .lt x6 0 = true
      · rw [if_pos hc108] at h
        refine pG_ift (t := 62) rfl rfl hc108 ?_
        exact f85_isSo_j62_ok x5 (some (.ref x1)) d2 d3 d4 (some (.int x6)) Z v9 Z9 h
      · rw [if_neg hc108] at h
        refine pG_iff (t := 62) rfl rfl hc108 ?_
        refine pG_many 2 (pc1 := 29) (L1 := [some (.ref 190), some (.ref x1), d2, d3, d4, some (.int x5), some (.int x6)]) (st1 := [.int x5, .int x6]) (M1 := mjTo Z) (fun _ _ => rfl) ?_
        by_cases hc113 : mjCmp .ge x6 x5 = true
        · rw [if_pos hc113] at h
          refine pG_cmt (t := 62) rfl rfl hc113 ?_
          exact f85_isSo_j62_ok x5 (some (.ref x1)) d2 d3 d4 (some (.int x6)) Z v9 Z9 h
        · rw [if_neg hc113] at h
          refine pG_cmf (t := 62) rfl rfl hc113 ?_
          refine pG_many 2 (pc1 := 35) (L1 := [some (.ref 190), some (.ref x1), d2, d3, d4, some (.int x5), some (.int x6)]) (st1 := [.ref 190, .int x6]) (M1 := mjTo Z) (fun _ _ => rfl) ?_
          refine pG_getR (ci := 4) (f := 1) (b := 192) rfl rfl rfl (by rfl) (by decide) rfl ?_
          refine pG_len rfl (by decide) (by decide) (by decide) ?_
          by_cases hc114 : mjCmp .ge x6 700 = true
          · rw [if_pos hc114] at h
            refine pG_cmt (t := 62) rfl rfl hc114 ?_
            exact f85_isSo_j62_ok x5 (some (.ref x1)) d2 d3 d4 (some (.int x6)) Z v9 Z9 h
          · rw [if_neg hc114] at h
            refine pG_cmf (t := 62) rfl rfl hc114 ?_
            refine pG_many 1 (pc1 := 43) (L1 := [some (.ref 190), some (.ref x1), d2, d3, d4, some (.int x5), some (.int x6)]) (st1 := [.ref 190]) (M1 := mjTo Z) (fun _ _ => rfl) ?_
            refine pG_getR (ci := 4) (f := 1) (b := 192) rfl rfl rfl (by rfl) (by decide) rfl ?_
            refine pG_many 4 (pc1 := 52) (L1 := [some (.ref 190), some (.ref x1), d2, d3, d4, some (.int x5), some (.int x6)]) (st1 := [.int x6, .ref x1, .ref 190, .int x6, .ref 192]) (M1 := mjTo Z) (fun _ _ => rfl) ?_
            cases hq115 : f84_work x1 x6 Z with
            | none => rw [hq115] at h; cases h
            | some v116 =>
              rw [hq115, mjBp_some] at h
              refine pG_callV (k2 := 83) (As := [.ref 190, .ref x1, .int x6]) (rest := [.int x6, .ref 192]) rfl rfl rfl rfl rfl (by rfl) (by decide) (by decide) (f84_work_ok hq115) ?_
              rintro r9 M9 ⟨rfl, rfl⟩
              show pG 84 55 [some (.ref 190), some (.ref x1), d2, d3, d4, some (.int x5), some (.int x6)] [.long v116, .int x6, .ref 192] (mjTo Z) _
              have hk118 : mjIn x6 700 = true := by
                by_cases q9 : mjIn x6 700 = true
                · exact q9
                · rw [if_neg q9] at h; cases h
              rw [if_pos hk118] at h
              refine pG_las rfl (by rfl) hk118 (?_ : pG 84 56 [some (.ref 190), some (.ref x1), d2, d3, d4, some (.int x5), some (.int x6)] [] (mjTo (zSl Z 192 (mjIx x6) v116)) _)
              rw [mjLet] at h
              generalize zSl Z 192 (mjIx x6) v116 = Z119 at h ⊢
              refine pG_many 2 (pc1 := 20) (L1 := [some (.ref 190), some (.ref x1), d2, d3, d4, some (.int x5), some (.int (x6 + 1))]) (st1 := []) (M1 := mjTo Z119) (fun _ _ => rfl) ?_
              exact f85_isSo_h20_ok n x1 x5 (x6 + 1) d2 d3 d4 Z119 v9 Z9 h
def f85_isSo (p0 : Nat) (p1 : Int32) (p2 : Int32) (Z : mjZt) : Option (Int32 × mjZt) :=
  if mjIs p0 211 8 = true then
  mjBp (f77_fromOf p0 p1 p2 Z) fun v103 =>
  mjBp (f78_toOf p0 p1 p2 Z) fun v106 =>
  f85_isSo_h20 mjF p0 v106 v103 Z
  else none
theorem f85_isSo_ok {p0 : Nat} {p1 : Int32} {p2 : Int32} {Z : mjZt} {v9 : Int32} {Z9 : mjZt} (h : f85_isSo p0 p1 p2 Z = some (v9, Z9)) : pG 84 0 (mjEnt [.ref 190, .ref p0, .int p1, .int p2] (mjML 84)) [] (mjTo Z) (fun r M1 => r = some (.int v9) ∧ M1 = mjTo Z9) := by
  unfold f85_isSo at h
  show pG 84 0 [some (.ref 190), some (.ref p0), some (.int p1), some (.int p2), none, none, none] [] (mjTo Z) _
  refine pG_many 3 (pc1 := 3) (L1 := [some (.ref 190), some (.ref p0), some (.int p1), some (.int p2), none, none, none]) (st1 := [.int p2, .int p1, .ref p0]) (M1 := mjTo Z) (fun _ _ => rfl) ?_
  have hk101 : mjIs p0 211 8 = true := by
    by_cases q9 : mjIs p0 211 8 = true
    · exact q9
    · rw [if_neg q9] at h; cases h
  rw [if_pos hk101] at h
  cases hq102 : f77_fromOf p0 p1 p2 Z with
  | none => rw [hq102] at h; cases h
  | some v103 =>
    rw [hq102, mjBp_some] at h
    refine pG_callV (k2 := 76) (As := [.ref p0, .int p1, .int p2]) (rest := []) rfl rfl rfl rfl rfl (mjRcv_is hk101 (by decide)) (by decide) (by decide) (f77_fromOf_ok hq102) ?_
    rintro r9 M9 ⟨rfl, rfl⟩
    show pG 84 6 [some (.ref 190), some (.ref p0), some (.int p1), some (.int p2), none, none, none] [.int v103] (mjTo Z) _
    refine pG_many 4 (pc1 := 11) (L1 := [some (.ref 190), some (.ref p0), some (.int p1), some (.int p2), some (.int v103), none, none]) (st1 := [.int p2, .int p1, .ref p0]) (M1 := mjTo Z) (fun _ _ => rfl) ?_
    cases hq105 : f78_toOf p0 p1 p2 Z with
    | none => rw [hq105] at h; cases h
    | some v106 =>
      rw [hq105, mjBp_some] at h
      refine pG_callV (k2 := 77) (As := [.ref p0, .int p1, .int p2]) (rest := []) rfl rfl rfl rfl rfl (mjRcv_is hk101 (by decide)) (by decide) (by decide) (f78_toOf_ok hq105) ?_
      rintro r9 M9 ⟨rfl, rfl⟩
      show pG 84 14 [some (.ref 190), some (.ref p0), some (.int p1), some (.int p2), some (.int v103), none, none] [.int v106] (mjTo Z) _
      refine pG_many 3 (pc1 := 20) (L1 := [some (.ref 190), some (.ref p0), some (.int p1), some (.int p2), some (.int v103), some (.int v106), some (.int v103)]) (st1 := []) (M1 := mjTo Z) (fun _ _ => rfl) ?_
      exact f85_isSo_h20_ok mjF p0 v106 v103 (some (.int p1)) (some (.int p2)) (some (.int v103)) Z v9 Z9 h
def f86_isOfBoth (p0 : Int32) (p1 : Int32) (Z : mjZt) : Option Int32 :=
  mjBp (f21_longAt 192 p1 Z) fun v102 =>
  if mjCmp .ne p0 5 = true then
    if mjCmp .ne (lg_cmp v102 (Int32.toInt64 0)) 0 = true then
      some 0
    else
      some 1
  else
    if mjCmp .ne (lg_cmp v102 (Int32.toInt64 1)) 0 = true then
      some 0
    else
      some 1
theorem f86_isOfBoth_ok {p0 : Int32} {p1 : Int32} {Z : mjZt} {v9 : Int32} (h : f86_isOfBoth p0 p1 Z = some v9) : pG 85 0 (mjEnt [.ref 190, .int p0, .int p1] (mjML 85)) [] (mjTo Z) (fun r M1 => r = some (.int v9) ∧ M1 = mjTo Z) := by
  unfold f86_isOfBoth at h
  show pG 85 0 [some (.ref 190), some (.int p0), some (.int p1)] [] (mjTo Z) _
  refine pG_many 1 (pc1 := 1) (L1 := [some (.ref 190), some (.int p0), some (.int p1)]) (st1 := [.ref 190]) (M1 := mjTo Z) (fun _ _ => rfl) ?_
  refine pG_getR (ci := 4) (f := 1) (b := 192) rfl rfl rfl (by rfl) (by decide) rfl ?_
  refine pG_many 1 (pc1 := 5) (L1 := [some (.ref 190), some (.int p0), some (.int p1)]) (st1 := [.int p1, .ref 192]) (M1 := mjTo Z) (fun _ _ => rfl) ?_
  cases hq101 : f21_longAt 192 p1 Z with
  | none => rw [hq101] at h; cases h
  | some v102 =>
    rw [hq101, mjBp_some] at h
    refine pG_call (k2 := 21) (As := [.ref 192, .int p1]) (rest := []) (fun _ _ => rfl) (by decide) (by decide) (f21_longAt_ok hq101) ?_
    rintro r9 M9 ⟨rfl, rfl⟩
    show pG 85 8 [some (.ref 190), some (.int p0), some (.int p1)] [.long v102] (mjTo Z) _
    refine pG_many 2 (pc1 := 10) (L1 := [some (.ref 190), some (.int p0), some (.int p1)]) (st1 := [.int 5, .int p0, .long v102]) (M1 := mjTo Z) (fun _ _ => rfl) ?_
    by_cases hc104 : mjCmp .ne p0 5 = true
    · rw [if_pos hc104] at h
      refine pG_cmt (t := 17) rfl rfl hc104 ?_
      refine pG_many 3 (pc1 := 20) (L1 := [some (.ref 190), some (.int p0), some (.int p1)]) (st1 := [.int (lg_cmp v102 (Int32.toInt64 0))]) (M1 := mjTo Z) (fun _ _ => rfl) ?_
      by_cases hc105 : mjCmp .ne (lg_cmp v102 (Int32.toInt64 0)) 0 = true
      · rw [if_pos hc105] at h
        refine pG_ift (t := 27) rfl rfl hc105 ?_
        refine pG_many 1 (pc1 := 28) (L1 := [some (.ref 190), some (.int p0), some (.int p1)]) (st1 := [.int 0]) (M1 := mjTo Z) (fun _ _ => rfl) ?_
        simp only [Option.some.injEq] at h
        subst h
        exact pG_ret (r := some (.int 0)) rfl ⟨rfl, rfl⟩
      · rw [if_neg hc105] at h
        refine pG_iff (t := 27) rfl rfl hc105 ?_
        refine pG_many 2 (pc1 := 28) (L1 := [some (.ref 190), some (.int p0), some (.int p1)]) (st1 := [.int 1]) (M1 := mjTo Z) (fun _ _ => rfl) ?_
        simp only [Option.some.injEq] at h
        subst h
        exact pG_ret (r := some (.int 1)) rfl ⟨rfl, rfl⟩
    · rw [if_neg hc104] at h
      refine pG_cmf (t := 17) rfl rfl hc104 ?_
      refine pG_many 4 (pc1 := 20) (L1 := [some (.ref 190), some (.int p0), some (.int p1)]) (st1 := [.int (lg_cmp v102 (Int32.toInt64 1))]) (M1 := mjTo Z) (fun _ _ => rfl) ?_
      by_cases hc106 : mjCmp .ne (lg_cmp v102 (Int32.toInt64 1)) 0 = true
      · rw [if_pos hc106] at h
        refine pG_ift (t := 27) rfl rfl hc106 ?_
        refine pG_many 1 (pc1 := 28) (L1 := [some (.ref 190), some (.int p0), some (.int p1)]) (st1 := [.int 0]) (M1 := mjTo Z) (fun _ _ => rfl) ?_
        simp only [Option.some.injEq] at h
        subst h
        exact pG_ret (r := some (.int 0)) rfl ⟨rfl, rfl⟩
      · rw [if_neg hc106] at h
        refine pG_iff (t := 27) rfl rfl hc106 ?_
        refine pG_many 2 (pc1 := 28) (L1 := [some (.ref 190), some (.int p0), some (.int p1)]) (st1 := [.int 1]) (M1 := mjTo Z) (fun _ _ => rfl) ?_
        simp only [Option.some.injEq] at h
        subst h
        exact pG_ret (r := some (.int 1)) rfl ⟨rfl, rfl⟩
def f87_isLeftEnough (p0 : Nat) (p1 : Int32) (Z : mjZt) : Option Int32 :=
  if mjIs p0 211 8 = true then
  mjBp (f81_leftOf p0 p1 Z) fun v103 =>
  mjBp (f21_longAt 192 p1 Z) fun v106 =>
  mjBp (f21_longAt 192 v103 Z) fun v109 =>
  if mjCmp .eq (lg_cmp v109 v106) 0 = true then
    mjBp (f21_longAt 192 (p1 - 1) Z) fun v113 =>
    if mjCmp .ne (lg_cmp v113 v106) 0 = true then
      some 1
    else
      mjBp (f5_at 193 v103 Z) fun v117 =>
      mjBp (f5_at 193 (p1 - 1) Z) fun v120 =>
      if mjCmp .gt v117 v120 = true then
        some 0
      else
        some 1
  else
    some 0
  else none
theorem f87_isLeftEnough_ok {p0 : Nat} {p1 : Int32} {Z : mjZt} {v9 : Int32} (h : f87_isLeftEnough p0 p1 Z = some v9) : pG 86 0 (mjEnt [.ref 190, .ref p0, .int p1] (mjML 86)) [] (mjTo Z) (fun r M1 => r = some (.int v9) ∧ M1 = mjTo Z) := by
  unfold f87_isLeftEnough at h
  show pG 86 0 [some (.ref 190), some (.ref p0), some (.int p1), none, none, none] [] (mjTo Z) _
  refine pG_many 2 (pc1 := 2) (L1 := [some (.ref 190), some (.ref p0), some (.int p1), none, none, none]) (st1 := [.int p1, .ref p0]) (M1 := mjTo Z) (fun _ _ => rfl) ?_
  have hk101 : mjIs p0 211 8 = true := by
    by_cases q9 : mjIs p0 211 8 = true
    · exact q9
    · rw [if_neg q9] at h; cases h
  rw [if_pos hk101] at h
  cases hq102 : f81_leftOf p0 p1 Z with
  | none => rw [hq102] at h; cases h
  | some v103 =>
    rw [hq102, mjBp_some] at h
    refine pG_callV (k2 := 80) (As := [.ref p0, .int p1]) (rest := []) rfl rfl rfl rfl rfl (mjRcv_is hk101 (by decide)) (by decide) (by decide) (f81_leftOf_ok hq102) ?_
    rintro r9 M9 ⟨rfl, rfl⟩
    show pG 86 5 [some (.ref 190), some (.ref p0), some (.int p1), none, none, none] [.int v103] (mjTo Z) _
    refine pG_many 2 (pc1 := 7) (L1 := [some (.ref 190), some (.ref p0), some (.int p1), some (.int v103), none, none]) (st1 := [.ref 190]) (M1 := mjTo Z) (fun _ _ => rfl) ?_
    refine pG_getR (ci := 4) (f := 1) (b := 192) rfl rfl rfl (by rfl) (by decide) rfl ?_
    refine pG_many 1 (pc1 := 11) (L1 := [some (.ref 190), some (.ref p0), some (.int p1), some (.int v103), none, none]) (st1 := [.int p1, .ref 192]) (M1 := mjTo Z) (fun _ _ => rfl) ?_
    cases hq105 : f21_longAt 192 p1 Z with
    | none => rw [hq105] at h; cases h
    | some v106 =>
      rw [hq105, mjBp_some] at h
      refine pG_call (k2 := 21) (As := [.ref 192, .int p1]) (rest := []) (fun _ _ => rfl) (by decide) (by decide) (f21_longAt_ok hq105) ?_
      rintro r9 M9 ⟨rfl, rfl⟩
      show pG 86 14 [some (.ref 190), some (.ref p0), some (.int p1), some (.int v103), none, none] [.long v106] (mjTo Z) _
      refine pG_many 2 (pc1 := 17) (L1 := [some (.ref 190), some (.ref p0), some (.int p1), some (.int v103), some (.long v106), none]) (st1 := [.ref 190]) (M1 := mjTo Z) (fun _ _ => rfl) ?_
      refine pG_getR (ci := 4) (f := 1) (b := 192) rfl rfl rfl (by rfl) (by decide) rfl ?_
      refine pG_many 1 (pc1 := 21) (L1 := [some (.ref 190), some (.ref p0), some (.int p1), some (.int v103), some (.long v106), none]) (st1 := [.int v103, .ref 192]) (M1 := mjTo Z) (fun _ _ => rfl) ?_
      cases hq108 : f21_longAt 192 v103 Z with
      | none => rw [hq108] at h; cases h
      | some v109 =>
        rw [hq108, mjBp_some] at h
        refine pG_call (k2 := 21) (As := [.ref 192, .int v103]) (rest := []) (fun _ _ => rfl) (by decide) (by decide) (f21_longAt_ok hq108) ?_
        rintro r9 M9 ⟨rfl, rfl⟩
        show pG 86 24 [some (.ref 190), some (.ref p0), some (.int p1), some (.int v103), some (.long v106), none] [.long v109] (mjTo Z) _
        refine pG_many 2 (pc1 := 27) (L1 := [some (.ref 190), some (.ref p0), some (.int p1), some (.int v103), some (.long v106), none]) (st1 := [.int (lg_cmp v109 v106)]) (M1 := mjTo Z) (fun _ _ => rfl) ?_
        by_cases hc111 : mjCmp .eq (lg_cmp v109 v106) 0 = true
        · rw [if_pos hc111] at h
          refine pG_ift (t := 32) rfl rfl hc111 ?_
          refine pG_many 1 (pc1 := 33) (L1 := [some (.ref 190), some (.ref p0), some (.int p1), some (.int v103), some (.long v106), none]) (st1 := [.ref 190]) (M1 := mjTo Z) (fun _ _ => rfl) ?_
          refine pG_getR (ci := 4) (f := 1) (b := 192) rfl rfl rfl (by rfl) (by decide) rfl ?_
          refine pG_many 3 (pc1 := 39) (L1 := [some (.ref 190), some (.ref p0), some (.int p1), some (.int v103), some (.long v106), none]) (st1 := [.int (p1 - 1), .ref 192]) (M1 := mjTo Z) (fun _ _ => rfl) ?_
          cases hq112 : f21_longAt 192 (p1 - 1) Z with
          | none => rw [hq112] at h; cases h
          | some v113 =>
            rw [hq112, mjBp_some] at h
            refine pG_call (k2 := 21) (As := [.ref 192, .int (p1 - 1)]) (rest := []) (fun _ _ => rfl) (by decide) (by decide) (f21_longAt_ok hq112) ?_
            rintro r9 M9 ⟨rfl, rfl⟩
            show pG 86 42 [some (.ref 190), some (.ref p0), some (.int p1), some (.int v103), some (.long v106), none] [.long v113] (mjTo Z) _
            refine pG_many 2 (pc1 := 45) (L1 := [some (.ref 190), some (.ref p0), some (.int p1), some (.int v103), some (.long v106), none]) (st1 := [.int (lg_cmp v113 v106)]) (M1 := mjTo Z) (fun _ _ => rfl) ?_
            by_cases hc115 : mjCmp .ne (lg_cmp v113 v106) 0 = true
            · rw [if_pos hc115] at h
              refine pG_ift (t := 69) rfl rfl hc115 ?_
              refine pG_many 2 (pc1 := 74) (L1 := [some (.ref 190), some (.ref p0), some (.int p1), some (.int v103), some (.long v106), none]) (st1 := [.int 1]) (M1 := mjTo Z) (fun _ _ => rfl) ?_
              simp only [Option.some.injEq] at h
              subst h
              exact pG_ret (r := some (.int 1)) rfl ⟨rfl, rfl⟩
            · rw [if_neg hc115] at h
              refine pG_iff (t := 69) rfl rfl hc115 ?_
              refine pG_many 1 (pc1 := 49) (L1 := [some (.ref 190), some (.ref p0), some (.int p1), some (.int v103), some (.long v106), none]) (st1 := [.ref 190]) (M1 := mjTo Z) (fun _ _ => rfl) ?_
              refine pG_getR (ci := 4) (f := 2) (b := 193) rfl rfl rfl (by rfl) (by decide) rfl ?_
              refine pG_many 1 (pc1 := 53) (L1 := [some (.ref 190), some (.ref p0), some (.int p1), some (.int v103), some (.long v106), none]) (st1 := [.int v103, .ref 193]) (M1 := mjTo Z) (fun _ _ => rfl) ?_
              cases hq116 : f5_at 193 v103 Z with
              | none => rw [hq116] at h; cases h
              | some v117 =>
                rw [hq116, mjBp_some] at h
                refine pG_call (k2 := 5) (As := [.ref 193, .int v103]) (rest := []) (fun _ _ => rfl) (by decide) (by decide) (f5_at_ok hq116) ?_
                rintro r9 M9 ⟨rfl, rfl⟩
                show pG 86 56 [some (.ref 190), some (.ref p0), some (.int p1), some (.int v103), some (.long v106), none] [.int v117] (mjTo Z) _
                refine pG_many 1 (pc1 := 57) (L1 := [some (.ref 190), some (.ref p0), some (.int p1), some (.int v103), some (.long v106), none]) (st1 := [.ref 190, .int v117]) (M1 := mjTo Z) (fun _ _ => rfl) ?_
                refine pG_getR (ci := 4) (f := 2) (b := 193) rfl rfl rfl (by rfl) (by decide) rfl ?_
                refine pG_many 3 (pc1 := 63) (L1 := [some (.ref 190), some (.ref p0), some (.int p1), some (.int v103), some (.long v106), none]) (st1 := [.int (p1 - 1), .ref 193, .int v117]) (M1 := mjTo Z) (fun _ _ => rfl) ?_
                cases hq119 : f5_at 193 (p1 - 1) Z with
                | none => rw [hq119] at h; cases h
                | some v120 =>
                  rw [hq119, mjBp_some] at h
                  refine pG_call (k2 := 5) (As := [.ref 193, .int (p1 - 1)]) (rest := [.int v117]) (fun _ _ => rfl) (by decide) (by decide) (f5_at_ok hq119) ?_
                  rintro r9 M9 ⟨rfl, rfl⟩
                  show pG 86 66 [some (.ref 190), some (.ref p0), some (.int p1), some (.int v103), some (.long v106), none] [.int v120, .int v117] (mjTo Z) _
                  by_cases hc122 : mjCmp .gt v117 v120 = true
                  · rw [if_pos hc122] at h
                    refine pG_cmt (t := 73) rfl rfl hc122 ?_
                    refine pG_many 1 (pc1 := 74) (L1 := [some (.ref 190), some (.ref p0), some (.int p1), some (.int v103), some (.long v106), none]) (st1 := [.int 0]) (M1 := mjTo Z) (fun _ _ => rfl) ?_
                    simp only [Option.some.injEq] at h
                    subst h
                    exact pG_ret (r := some (.int 0)) rfl ⟨rfl, rfl⟩
                  · rw [if_neg hc122] at h
                    refine pG_cmf (t := 73) rfl rfl hc122 ?_
                    refine pG_many 2 (pc1 := 74) (L1 := [some (.ref 190), some (.ref p0), some (.int p1), some (.int v103), some (.long v106), none]) (st1 := [.int 1]) (M1 := mjTo Z) (fun _ _ => rfl) ?_
                    simp only [Option.some.injEq] at h
                    subst h
                    exact pG_ret (r := some (.int 1)) rfl ⟨rfl, rfl⟩
        · rw [if_neg hc111] at h
          refine pG_iff (t := 32) rfl rfl hc111 ?_
          refine pG_many 1 (pc1 := 31) (L1 := [some (.ref 190), some (.ref p0), some (.int p1), some (.int v103), some (.long v106), none]) (st1 := [.int 0]) (M1 := mjTo Z) (fun _ _ => rfl) ?_
          simp only [Option.some.injEq] at h
          subst h
          exact pG_ret (r := some (.int 0)) rfl ⟨rfl, rfl⟩
def f88_weigh_j48 (x1 : Nat) (x2 : Int32) (x3 : Int32) (x4 : Int32) (Z : mjZt) : Option Int32 :=
  if mjIs x1 211 8 = true then
  mjBp (f81_leftOf x1 x2 Z) fun v116 =>
  mjBp (f5_at 193 v116 Z) fun v119 =>
  mjBp (f86_isOfBoth x3 x2 Z) fun v122 =>
  if mjCmp .eq v122 0 = true then
    mjBp (f87_isLeftEnough x1 x2 Z) fun v126 =>
    if mjCmp .eq v126 0 = true then
      some x4
    else
      some v119
  else
    some (v119 + x4)
  else none
theorem f88_weigh_j48_ok (x1 : Nat) (x2 : Int32) (x3 : Int32) (x4 : Int32) (d5 : Option Value) (Z : mjZt) (v9 : Int32) (h : f88_weigh_j48 x1 x2 x3 x4 Z = some v9) : pG 87 48 [some (.ref 190), some (.ref x1), some (.int x2), some (.int x3), some (.int x4), d5] [] (mjTo Z) (fun r M1 => r = some (.int v9) ∧ M1 = mjTo Z) := by
  unfold f88_weigh_j48 at h
  refine pG_many 1 (pc1 := 49) (L1 := [some (.ref 190), some (.ref x1), some (.int x2), some (.int x3), some (.int x4), d5]) (st1 := [.ref 190]) (M1 := mjTo Z) (fun _ _ => rfl) ?_
  refine pG_getR (ci := 4) (f := 2) (b := 193) rfl rfl rfl (by rfl) (by decide) rfl ?_
  refine pG_many 2 (pc1 := 54) (L1 := [some (.ref 190), some (.ref x1), some (.int x2), some (.int x3), some (.int x4), d5]) (st1 := [.int x2, .ref x1, .ref 193]) (M1 := mjTo Z) (fun _ _ => rfl) ?_
  have hk114 : mjIs x1 211 8 = true := by
    by_cases q9 : mjIs x1 211 8 = true
    · exact q9
    · rw [if_neg q9] at h; cases h
  rw [if_pos hk114] at h
  cases hq115 : f81_leftOf x1 x2 Z with
  | none => rw [hq115] at h; cases h
  | some v116 =>
    rw [hq115, mjBp_some] at h
    refine pG_callV (k2 := 80) (As := [.ref x1, .int x2]) (rest := [.ref 193]) rfl rfl rfl rfl rfl (mjRcv_is hk114 (by decide)) (by decide) (by decide) (f81_leftOf_ok hq115) ?_
    rintro r9 M9 ⟨rfl, rfl⟩
    show pG 87 57 [some (.ref 190), some (.ref x1), some (.int x2), some (.int x3), some (.int x4), d5] [.int v116, .ref 193] (mjTo Z) _
    cases hq118 : f5_at 193 v116 Z with
    | none => rw [hq118] at h; cases h
    | some v119 =>
      rw [hq118, mjBp_some] at h
      refine pG_call (k2 := 5) (As := [.ref 193, .int v116]) (rest := []) (fun _ _ => rfl) (by decide) (by decide) (f5_at_ok hq118) ?_
      rintro r9 M9 ⟨rfl, rfl⟩
      show pG 87 60 [some (.ref 190), some (.ref x1), some (.int x2), some (.int x3), some (.int x4), d5] [.int v119] (mjTo Z) _
      refine pG_many 4 (pc1 := 65) (L1 := [some (.ref 190), some (.ref x1), some (.int x2), some (.int x3), some (.int x4), some (.int v119)]) (st1 := [.int x2, .int x3, .ref 190]) (M1 := mjTo Z) (fun _ _ => rfl) ?_
      cases hq121 : f86_isOfBoth x3 x2 Z with
      | none => rw [hq121] at h; cases h
      | some v122 =>
        rw [hq121, mjBp_some] at h
        refine pG_callV (k2 := 85) (As := [.ref 190, .int x3, .int x2]) (rest := []) rfl rfl rfl rfl rfl (by rfl) (by decide) (by decide) (f86_isOfBoth_ok hq121) ?_
        rintro r9 M9 ⟨rfl, rfl⟩
        show pG 87 68 [some (.ref 190), some (.ref x1), some (.int x2), some (.int x3), some (.int x4), some (.int v119)] [.int v122] (mjTo Z) _
        by_cases hc124 : mjCmp .eq v122 0 = true
        · rw [if_pos hc124] at h
          refine pG_ift (t := 77) rfl rfl hc124 ?_
          refine pG_many 3 (pc1 := 80) (L1 := [some (.ref 190), some (.ref x1), some (.int x2), some (.int x3), some (.int x4), some (.int v119)]) (st1 := [.int x2, .ref x1, .ref 190]) (M1 := mjTo Z) (fun _ _ => rfl) ?_
          cases hq125 : f87_isLeftEnough x1 x2 Z with
          | none => rw [hq125] at h; cases h
          | some v126 =>
            rw [hq125, mjBp_some] at h
            refine pG_callV (k2 := 86) (As := [.ref 190, .ref x1, .int x2]) (rest := []) rfl rfl rfl rfl rfl (by rfl) (by decide) (by decide) (f87_isLeftEnough_ok hq125) ?_
            rintro r9 M9 ⟨rfl, rfl⟩
            show pG 87 83 [some (.ref 190), some (.ref x1), some (.int x2), some (.int x3), some (.int x4), some (.int v119)] [.int v126] (mjTo Z) _
            by_cases hc128 : mjCmp .eq v126 0 = true
            · rw [if_pos hc128] at h
              refine pG_ift (t := 91) rfl rfl hc128 ?_
              refine pG_many 1 (pc1 := 93) (L1 := [some (.ref 190), some (.ref x1), some (.int x2), some (.int x3), some (.int x4), some (.int v119)]) (st1 := [.int x4]) (M1 := mjTo Z) (fun _ _ => rfl) ?_
              simp only [Option.some.injEq] at h
              subst h
              exact pG_ret (r := some (.int x4)) rfl ⟨rfl, rfl⟩
            · rw [if_neg hc128] at h
              refine pG_iff (t := 91) rfl rfl hc128 ?_
              refine pG_many 2 (pc1 := 93) (L1 := [some (.ref 190), some (.ref x1), some (.int x2), some (.int x3), some (.int x4), some (.int v119)]) (st1 := [.int v119]) (M1 := mjTo Z) (fun _ _ => rfl) ?_
              simp only [Option.some.injEq] at h
              subst h
              exact pG_ret (r := some (.int v119)) rfl ⟨rfl, rfl⟩
        · rw [if_neg hc124] at h
          refine pG_iff (t := 77) rfl rfl hc124 ?_
          refine pG_many 3 (pc1 := 76) (L1 := [some (.ref 190), some (.ref x1), some (.int x2), some (.int x3), some (.int x4), some (.int v119)]) (st1 := [.int (v119 + x4)]) (M1 := mjTo Z) (fun _ _ => rfl) ?_
          simp only [Option.some.injEq] at h
          subst h
          exact pG_ret (r := some (.int (v119 + x4))) rfl ⟨rfl, rfl⟩
def f88_weigh (p0 : Nat) (p1 : Int32) (Z : mjZt) : Option Int32 :=
  if mjIs p0 211 8 = true then
  mjBp (f79_opAt p0 p1 Z) fun v103 =>
  mjBp (f58_isComparison v103 Z) fun v106 =>
  if mjCmp .eq v106 0 = true then
    mjBp (f5_at 193 (p1 - 1) Z) fun v110 =>
    if mjCmp .ne v103 6 = true then
      if mjCmp .eq v103 5 = true then
        f88_weigh_j48 p0 p1 v103 v110 Z
      else
        if mjCmp .eq v103 4 = true then
          f88_weigh_j48 p0 p1 v103 v110 Z
        else
          some 0
    else
      some v110
  else
    some 1
  else none
theorem f88_weigh_ok {p0 : Nat} {p1 : Int32} {Z : mjZt} {v9 : Int32} (h : f88_weigh p0 p1 Z = some v9) : pG 87 0 (mjEnt [.ref 190, .ref p0, .int p1] (mjML 87)) [] (mjTo Z) (fun r M1 => r = some (.int v9) ∧ M1 = mjTo Z) := by
  unfold f88_weigh at h
  show pG 87 0 [some (.ref 190), some (.ref p0), some (.int p1), none, none, none] [] (mjTo Z) _
  refine pG_many 2 (pc1 := 2) (L1 := [some (.ref 190), some (.ref p0), some (.int p1), none, none, none]) (st1 := [.int p1, .ref p0]) (M1 := mjTo Z) (fun _ _ => rfl) ?_
  have hk101 : mjIs p0 211 8 = true := by
    by_cases q9 : mjIs p0 211 8 = true
    · exact q9
    · rw [if_neg q9] at h; cases h
  rw [if_pos hk101] at h
  cases hq102 : f79_opAt p0 p1 Z with
  | none => rw [hq102] at h; cases h
  | some v103 =>
    rw [hq102, mjBp_some] at h
    refine pG_callV (k2 := 78) (As := [.ref p0, .int p1]) (rest := []) rfl rfl rfl rfl rfl (mjRcv_is hk101 (by decide)) (by decide) (by decide) (f79_opAt_ok hq102) ?_
    rintro r9 M9 ⟨rfl, rfl⟩
    show pG 87 5 [some (.ref 190), some (.ref p0), some (.int p1), none, none, none] [.int v103] (mjTo Z) _
    refine pG_many 2 (pc1 := 7) (L1 := [some (.ref 190), some (.ref p0), some (.int p1), some (.int v103), none, none]) (st1 := [.int v103]) (M1 := mjTo Z) (fun _ _ => rfl) ?_
    cases hq105 : f58_isComparison v103 Z with
    | none => rw [hq105] at h; cases h
    | some v106 =>
      rw [hq105, mjBp_some] at h
      refine pG_call (k2 := 58) (As := [.int v103]) (rest := []) (fun _ _ => rfl) (by decide) (by decide) (f58_isComparison_ok hq105) ?_
      rintro r9 M9 ⟨rfl, rfl⟩
      show pG 87 10 [some (.ref 190), some (.ref p0), some (.int p1), some (.int v103), none, none] [.int v106] (mjTo Z) _
      by_cases hc108 : mjCmp .eq v106 0 = true
      · rw [if_pos hc108] at h
        refine pG_ift (t := 15) rfl rfl hc108 ?_
        refine pG_many 1 (pc1 := 16) (L1 := [some (.ref 190), some (.ref p0), some (.int p1), some (.int v103), none, none]) (st1 := [.ref 190]) (M1 := mjTo Z) (fun _ _ => rfl) ?_
        refine pG_getR (ci := 4) (f := 2) (b := 193) rfl rfl rfl (by rfl) (by decide) rfl ?_
        refine pG_many 3 (pc1 := 22) (L1 := [some (.ref 190), some (.ref p0), some (.int p1), some (.int v103), none, none]) (st1 := [.int (p1 - 1), .ref 193]) (M1 := mjTo Z) (fun _ _ => rfl) ?_
        cases hq109 : f5_at 193 (p1 - 1) Z with
        | none => rw [hq109] at h; cases h
        | some v110 =>
          rw [hq109, mjBp_some] at h
          refine pG_call (k2 := 5) (As := [.ref 193, .int (p1 - 1)]) (rest := []) (fun _ _ => rfl) (by decide) (by decide) (f5_at_ok hq109) ?_
          rintro r9 M9 ⟨rfl, rfl⟩
          show pG 87 25 [some (.ref 190), some (.ref p0), some (.int p1), some (.int v103), none, none] [.int v110] (mjTo Z) _
          refine pG_many 3 (pc1 := 30) (L1 := [some (.ref 190), some (.ref p0), some (.int p1), some (.int v103), some (.int v110), none]) (st1 := [.int 6, .int v103]) (M1 := mjTo Z) (fun _ _ => rfl) ?_
          by_cases hc112 : mjCmp .ne v103 6 = true
          · rw [if_pos hc112] at h
            refine pG_cmt (t := 36) rfl rfl hc112 ?_
            refine pG_many 2 (pc1 := 38) (L1 := [some (.ref 190), some (.ref p0), some (.int p1), some (.int v103), some (.int v110), none]) (st1 := [.int 5, .int v103]) (M1 := mjTo Z) (fun _ _ => rfl) ?_
            by_cases hc113 : mjCmp .eq v103 5 = true
            · rw [if_pos hc113] at h
              refine pG_cmt (t := 48) rfl rfl hc113 ?_
              exact f88_weigh_j48_ok p0 p1 v103 v110 none Z v9 h
            · rw [if_neg hc113] at h
              refine pG_cmf (t := 48) rfl rfl hc113 ?_
              refine pG_many 2 (pc1 := 43) (L1 := [some (.ref 190), some (.ref p0), some (.int p1), some (.int v103), some (.int v110), none]) (st1 := [.int 4, .int v103]) (M1 := mjTo Z) (fun _ _ => rfl) ?_
              by_cases hc129 : mjCmp .eq v103 4 = true
              · rw [if_pos hc129] at h
                refine pG_cmt (t := 48) rfl rfl hc129 ?_
                exact f88_weigh_j48_ok p0 p1 v103 v110 none Z v9 h
              · rw [if_neg hc129] at h
                refine pG_cmf (t := 48) rfl rfl hc129 ?_
                refine pG_many 1 (pc1 := 47) (L1 := [some (.ref 190), some (.ref p0), some (.int p1), some (.int v103), some (.int v110), none]) (st1 := [.int 0]) (M1 := mjTo Z) (fun _ _ => rfl) ?_
                simp only [Option.some.injEq] at h
                subst h
                exact pG_ret (r := some (.int 0)) rfl ⟨rfl, rfl⟩
          · rw [if_neg hc112] at h
            refine pG_cmf (t := 36) rfl rfl hc112 ?_
            refine pG_many 1 (pc1 := 35) (L1 := [some (.ref 190), some (.ref p0), some (.int p1), some (.int v103), some (.int v110), none]) (st1 := [.int v110]) (M1 := mjTo Z) (fun _ _ => rfl) ?_
            simp only [Option.some.injEq] at h
            subst h
            exact pG_ret (r := some (.int v110)) rfl ⟨rfl, rfl⟩
      · rw [if_neg hc108] at h
        refine pG_iff (t := 15) rfl rfl hc108 ?_
        refine pG_many 1 (pc1 := 14) (L1 := [some (.ref 190), some (.ref p0), some (.int p1), some (.int v103), none, none]) (st1 := [.int 1]) (M1 := mjTo Z) (fun _ _ => rfl) ?_
        simp only [Option.some.injEq] at h
        subst h
        exact pG_ret (r := some (.int 1)) rfl ⟨rfl, rfl⟩
def f89_pick (p0 : Int32) (p1 : Int32) (Z : mjZt) : Option (Unit × mjZt) :=
  if mjCmp .lt p0 0 = true then
    some ((), Z)
  else
    if mjCmp .ge p0 700 = true then
      some ((), Z)
    else
      if mjIn p0 700 = true then
      if p1 = 0 ∨ p1 = 1 then
      mjLet (zSi Z 194 (mjIx p0) p1) fun Z105 =>
      some ((), Z105)
      else none
      else none
theorem f89_pick_ok {p0 : Int32} {p1 : Int32} {Z : mjZt} {v9 : Unit} {Z9 : mjZt} (h : f89_pick p0 p1 Z = some (v9, Z9)) : pG 88 0 (mjEnt [.ref 190, .int p0, .int p1] (mjML 88)) [] (mjTo Z) (fun r M1 => r = none ∧ M1 = mjTo Z9) := by
  unfold f89_pick at h
  show pG 88 0 [some (.ref 190), some (.int p0), some (.int p1)] [] (mjTo Z) _
  refine pG_many 1 (pc1 := 1) (L1 := [some (.ref 190), some (.int p0), some (.int p1)]) (st1 := [.int p0]) (M1 := mjTo Z) (fun _ _ => rfl) ?_
  by_cases hc101 : mjCmp .lt p0 0 = true
  · rw [if_pos hc101] at h
    refine pG_ift (t := 20) rfl rfl hc101 ?_
    simp only [Option.some.injEq, Prod.mk.injEq] at h
    obtain ⟨-, rfl⟩ := h
    exact pG_ret (r := none) rfl ⟨rfl, rfl⟩
  · rw [if_neg hc101] at h
    refine pG_iff (t := 20) rfl rfl hc101 ?_
    refine pG_many 2 (pc1 := 6) (L1 := [some (.ref 190), some (.int p0), some (.int p1)]) (st1 := [.ref 190, .int p0]) (M1 := mjTo Z) (fun _ _ => rfl) ?_
    refine pG_getR (ci := 4) (f := 3) (b := 194) rfl rfl rfl (by rfl) (by decide) rfl ?_
    refine pG_len rfl (by decide) (by decide) (by decide) ?_
    by_cases hc102 : mjCmp .ge p0 700 = true
    · rw [if_pos hc102] at h
      refine pG_cmt (t := 20) rfl rfl hc102 ?_
      simp only [Option.some.injEq, Prod.mk.injEq] at h
      obtain ⟨-, rfl⟩ := h
      exact pG_ret (r := none) rfl ⟨rfl, rfl⟩
    · rw [if_neg hc102] at h
      refine pG_cmf (t := 20) rfl rfl hc102 ?_
      refine pG_many 1 (pc1 := 14) (L1 := [some (.ref 190), some (.int p0), some (.int p1)]) (st1 := [.ref 190]) (M1 := mjTo Z) (fun _ _ => rfl) ?_
      refine pG_getR (ci := 4) (f := 3) (b := 194) rfl rfl rfl (by rfl) (by decide) rfl ?_
      refine pG_many 2 (pc1 := 19) (L1 := [some (.ref 190), some (.int p0), some (.int p1)]) (st1 := [.int p1, .int p0, .ref 194]) (M1 := mjTo Z) (fun _ _ => rfl) ?_
      have hk103 : mjIn p0 700 = true := by
        by_cases q9 : mjIn p0 700 = true
        · exact q9
        · rw [if_neg q9] at h; cases h
      rw [if_pos hk103] at h
      have hk104 : p1 = 0 ∨ p1 = 1 := by
        by_cases q9 : p1 = 0 ∨ p1 = 1
        · exact q9
        · rw [if_neg q9] at h; cases h
      rw [if_pos hk104] at h
      refine pG_bas rfl (by rfl) hk103 hk104 (?_ : pG 88 20 [some (.ref 190), some (.int p0), some (.int p1)] [] (mjTo (zSi Z 194 (mjIx p0) p1)) _)
      rw [mjLet] at h
      generalize zSi Z 194 (mjIx p0) p1 = Z105 at h ⊢
      simp only [Option.some.injEq, Prod.mk.injEq] at h
      obtain ⟨-, rfl⟩ := h
      exact pG_ret (r := none) rfl ⟨rfl, rfl⟩
def f90_choose_j190 (R : Nat → Int32 → Int32 → mjZt → Option (Unit × mjZt)) (x1 : Nat) (x2 : Int32) (x4 : Int32) (x5 : Int32) (Z : mjZt) : Option (Unit × mjZt) :=
  if mjIn x4 700 = true then
  if mjCmp .eq (Z.1 194 (mjIx x4)) 0 = true then
    R x1 x2 (x4 + (-1)) Z
  else
    if mjCmp .ne x5 6 = true then
      R x1 x2 (x4 + (-1)) Z
    else
      mjBd (f89_pick (x4 - 1) 1 Z) fun _ Z116 =>
      R x1 x2 (x4 + (-1)) Z116
  else none
theorem f90_choose_j190_ok (R : Nat → Int32 → Int32 → mjZt → Option (Unit × mjZt)) (hR : ∀ (x1 : Nat) (x2 : Int32) (x4 : Int32) (d3 d5 d6 d7 : Option Value) (Z : mjZt) (v9 : Unit) (Z9 : mjZt), R x1 x2 x4 Z = some (v9, Z9) → pG 89 69 [some (.ref 190), some (.ref x1), some (.int x2), d3, some (.int x4), d5, d6, d7] [] (mjTo Z) (fun r M1 => r = none ∧ M1 = mjTo Z9)) (x1 : Nat) (x2 : Int32) (x4 : Int32) (x5 : Int32) (d3 d6 d7 : Option Value) (Z : mjZt) (v9 : Unit) (Z9 : mjZt) (h : f90_choose_j190 R x1 x2 x4 x5 Z = some (v9, Z9)) : pG 89 190 [some (.ref 190), some (.ref x1), some (.int x2), d3, some (.int x4), some (.int x5), d6, d7] [] (mjTo Z) (fun r M1 => r = none ∧ M1 = mjTo Z9) := by
  unfold f90_choose_j190 at h
  refine pG_many 1 (pc1 := 191) (L1 := [some (.ref 190), some (.ref x1), some (.int x2), d3, some (.int x4), some (.int x5), d6, d7]) (st1 := [.ref 190]) (M1 := mjTo Z) (fun _ _ => rfl) ?_
  refine pG_getR (ci := 4) (f := 3) (b := 194) rfl rfl rfl (by rfl) (by decide) rfl ?_
  refine pG_many 1 (pc1 := 196) (L1 := [some (.ref 190), some (.ref x1), some (.int x2), d3, some (.int x4), some (.int x5), d6, d7]) (st1 := [.int x4, .ref 194]) (M1 := mjTo Z) (fun _ _ => rfl) ?_
  have hk111 : mjIn x4 700 = true := by
    by_cases q9 : mjIn x4 700 = true
    · exact q9
    · rw [if_neg q9] at h; cases h
  rw [if_pos hk111] at h
  refine pG_bal rfl (by rfl) hk111 ?_
  by_cases hc112 : mjCmp .eq (Z.1 194 (mjIx x4)) 0 = true
  · rw [if_pos hc112] at h
    refine pG_ift (t := 216) rfl rfl hc112 ?_
    refine pG_many 2 (pc1 := 69) (L1 := [some (.ref 190), some (.ref x1), some (.int x2), (mjK1 d3), some (.int (x4 + (-1))), some (.int x5), d6, d7]) (st1 := []) (M1 := mjTo Z) (fun _ _ => rfl) ?_
    exact hR x1 x2 (x4 + (-1)) ((mjK1 d3)) (some (.int x5)) d6 d7 Z v9 Z9 h
  · rw [if_neg hc112] at h
    refine pG_iff (t := 216) rfl rfl hc112 ?_
    refine pG_many 2 (pc1 := 204) (L1 := [some (.ref 190), some (.ref x1), some (.int x2), d3, some (.int x4), some (.int x5), d6, d7]) (st1 := [.int 6, .int x5]) (M1 := mjTo Z) (fun _ _ => rfl) ?_
    by_cases hc113 : mjCmp .ne x5 6 = true
    · rw [if_pos hc113] at h
      refine pG_cmt (t := 216) rfl rfl hc113 ?_
      refine pG_many 2 (pc1 := 69) (L1 := [some (.ref 190), some (.ref x1), some (.int x2), (mjK1 d3), some (.int (x4 + (-1))), some (.int x5), d6, d7]) (st1 := []) (M1 := mjTo Z) (fun _ _ => rfl) ?_
      exact hR x1 x2 (x4 + (-1)) ((mjK1 d3)) (some (.int x5)) d6 d7 Z v9 Z9 h
    · rw [if_neg hc113] at h
      refine pG_cmf (t := 216) rfl rfl hc113 ?_
      refine pG_many 5 (pc1 := 213) (L1 := [some (.ref 190), some (.ref x1), some (.int x2), d3, some (.int x4), some (.int x5), d6, d7]) (st1 := [.int 1, .int (x4 - 1), .ref 190]) (M1 := mjTo Z) (fun _ _ => rfl) ?_
      cases hq114 : f89_pick (x4 - 1) 1 Z with
      | none => rw [hq114] at h; cases h
      | some w =>
        obtain ⟨v115, Z116⟩ := w
        rw [hq114, mjBd_some] at h
        refine pG_callV (k2 := 88) (As := [.ref 190, .int (x4 - 1), .int 1]) (rest := []) rfl rfl rfl rfl rfl (by rfl) (by decide) (by decide) (f89_pick_ok hq114) ?_
        rintro r9 M9 ⟨rfl, rfl⟩
        show pG 89 216 [some (.ref 190), some (.ref x1), some (.int x2), d3, some (.int x4), some (.int x5), d6, d7] [] (mjTo Z116) _
        refine pG_many 2 (pc1 := 69) (L1 := [some (.ref 190), some (.ref x1), some (.int x2), (mjK1 d3), some (.int (x4 + (-1))), some (.int x5), d6, d7]) (st1 := []) (M1 := mjTo Z116) (fun _ _ => rfl) ?_
        exact hR x1 x2 (x4 + (-1)) ((mjK1 d3)) (some (.int x5)) d6 d7 Z116 v9 Z9 h
def f90_choose_j150 (R : Nat → Int32 → Int32 → mjZt → Option (Unit × mjZt)) (x1 : Nat) (x2 : Int32) (x4 : Int32) (x6 : Int32) (s0 : Int32) (Z : mjZt) : Option (Unit × mjZt) :=
  if mjIs x1 211 8 = true then
  mjBp (f81_leftOf x1 x4 Z) fun v124 =>
  mjBd (f89_pick v124 s0 Z) fun _ Z128 =>
  if mjCmp .ne x6 0 = true then
    mjBd (f89_pick (x4 - 1) 1 Z128) fun _ Z132 =>
    R x1 x2 (x4 + (-1)) Z132
  else
    if mjCmp .ne s0 0 = true then
      mjBd (f89_pick (x4 - 1) 0 Z128) fun _ Z136 =>
      R x1 x2 (x4 + (-1)) Z136
    else
      mjBd (f89_pick (x4 - 1) 1 Z128) fun _ Z139 =>
      R x1 x2 (x4 + (-1)) Z139
  else none
theorem f90_choose_j150_ok (R : Nat → Int32 → Int32 → mjZt → Option (Unit × mjZt)) (hR : ∀ (x1 : Nat) (x2 : Int32) (x4 : Int32) (d3 d5 d6 d7 : Option Value) (Z : mjZt) (v9 : Unit) (Z9 : mjZt), R x1 x2 x4 Z = some (v9, Z9) → pG 89 69 [some (.ref 190), some (.ref x1), some (.int x2), d3, some (.int x4), d5, d6, d7] [] (mjTo Z) (fun r M1 => r = none ∧ M1 = mjTo Z9)) (x1 : Nat) (x2 : Int32) (x4 : Int32) (x6 : Int32) (s0 : Int32) (d3 d5 d7 : Option Value) (Z : mjZt) (v9 : Unit) (Z9 : mjZt) (h : f90_choose_j150 R x1 x2 x4 x6 s0 Z = some (v9, Z9)) : pG 89 150 [some (.ref 190), some (.ref x1), some (.int x2), d3, some (.int x4), d5, some (.int x6), d7] [.int s0] (mjTo Z) (fun r M1 => r = none ∧ M1 = mjTo Z9) := by
  unfold f90_choose_j150 at h
  refine pG_many 4 (pc1 := 156) (L1 := [some (.ref 190), some (.ref x1), some (.int x2), d3, some (.int x4), d5, some (.int x6), some (.int s0)]) (st1 := [.int x4, .ref x1, .ref 190]) (M1 := mjTo Z) (fun _ _ => rfl) ?_
  have hk122 : mjIs x1 211 8 = true := by
    by_cases q9 : mjIs x1 211 8 = true
    · exact q9
    · rw [if_neg q9] at h; cases h
  rw [if_pos hk122] at h
  cases hq123 : f81_leftOf x1 x4 Z with
  | none => rw [hq123] at h; cases h
  | some v124 =>
    rw [hq123, mjBp_some] at h
    refine pG_callV (k2 := 80) (As := [.ref x1, .int x4]) (rest := [.ref 190]) rfl rfl rfl rfl rfl (mjRcv_is hk122 (by decide)) (by decide) (by decide) (f81_leftOf_ok hq123) ?_
    rintro r9 M9 ⟨rfl, rfl⟩
    show pG 89 159 [some (.ref 190), some (.ref x1), some (.int x2), d3, some (.int x4), d5, some (.int x6), some (.int s0)] [.int v124, .ref 190] (mjTo Z) _
    refine pG_many 1 (pc1 := 161) (L1 := [some (.ref 190), some (.ref x1), some (.int x2), d3, some (.int x4), d5, some (.int x6), some (.int s0)]) (st1 := [.int s0, .int v124, .ref 190]) (M1 := mjTo Z) (fun _ _ => rfl) ?_
    cases hq126 : f89_pick v124 s0 Z with
    | none => rw [hq126] at h; cases h
    | some w =>
      obtain ⟨v127, Z128⟩ := w
      rw [hq126, mjBd_some] at h
      refine pG_callV (k2 := 88) (As := [.ref 190, .int v124, .int s0]) (rest := []) rfl rfl rfl rfl rfl (by rfl) (by decide) (by decide) (f89_pick_ok hq126) ?_
      rintro r9 M9 ⟨rfl, rfl⟩
      show pG 89 164 [some (.ref 190), some (.ref x1), some (.int x2), d3, some (.int x4), d5, some (.int x6), some (.int s0)] [] (mjTo Z128) _
      refine pG_many 5 (pc1 := 171) (L1 := [some (.ref 190), some (.ref x1), some (.int x2), d3, some (.int x4), d5, some (.int x6), some (.int s0)]) (st1 := [.int x6, .int (x4 - 1), .ref 190]) (M1 := mjTo Z128) (fun _ _ => rfl) ?_
      by_cases hc129 : mjCmp .ne x6 0 = true
      · rw [if_pos hc129] at h
        refine pG_ift (t := 179) rfl rfl hc129 ?_
        refine pG_many 2 (pc1 := 184) (L1 := [some (.ref 190), some (.ref x1), some (.int x2), d3, some (.int x4), d5, some (.int x6), some (.int s0)]) (st1 := [.int 1, .int (x4 - 1), .ref 190]) (M1 := mjTo Z128) (fun _ _ => rfl) ?_
        cases hq130 : f89_pick (x4 - 1) 1 Z128 with
        | none => rw [hq130] at h; cases h
        | some w =>
          obtain ⟨v131, Z132⟩ := w
          rw [hq130, mjBd_some] at h
          refine pG_callV (k2 := 88) (As := [.ref 190, .int (x4 - 1), .int 1]) (rest := []) rfl rfl rfl rfl rfl (by rfl) (by decide) (by decide) (f89_pick_ok hq130) ?_
          rintro r9 M9 ⟨rfl, rfl⟩
          show pG 89 187 [some (.ref 190), some (.ref x1), some (.int x2), d3, some (.int x4), d5, some (.int x6), some (.int s0)] [] (mjTo Z132) _
          refine pG_many 3 (pc1 := 69) (L1 := [some (.ref 190), some (.ref x1), some (.int x2), (mjK1 d3), some (.int (x4 + (-1))), d5, some (.int x6), some (.int s0)]) (st1 := []) (M1 := mjTo Z132) (fun _ _ => rfl) ?_
          exact hR x1 x2 (x4 + (-1)) ((mjK1 d3)) d5 (some (.int x6)) (some (.int s0)) Z132 v9 Z9 h
      · rw [if_neg hc129] at h
        refine pG_iff (t := 179) rfl rfl hc129 ?_
        refine pG_many 1 (pc1 := 176) (L1 := [some (.ref 190), some (.ref x1), some (.int x2), d3, some (.int x4), d5, some (.int x6), some (.int s0)]) (st1 := [.int s0, .int (x4 - 1), .ref 190]) (M1 := mjTo Z128) (fun _ _ => rfl) ?_
        by_cases hc133 : mjCmp .ne s0 0 = true
        · rw [if_pos hc133] at h
          refine pG_ift (t := 183) rfl rfl hc133 ?_
          refine pG_many 1 (pc1 := 184) (L1 := [some (.ref 190), some (.ref x1), some (.int x2), d3, some (.int x4), d5, some (.int x6), some (.int s0)]) (st1 := [.int 0, .int (x4 - 1), .ref 190]) (M1 := mjTo Z128) (fun _ _ => rfl) ?_
          cases hq134 : f89_pick (x4 - 1) 0 Z128 with
          | none => rw [hq134] at h; cases h
          | some w =>
            obtain ⟨v135, Z136⟩ := w
            rw [hq134, mjBd_some] at h
            refine pG_callV (k2 := 88) (As := [.ref 190, .int (x4 - 1), .int 0]) (rest := []) rfl rfl rfl rfl rfl (by rfl) (by decide) (by decide) (f89_pick_ok hq134) ?_
            rintro r9 M9 ⟨rfl, rfl⟩
            show pG 89 187 [some (.ref 190), some (.ref x1), some (.int x2), d3, some (.int x4), d5, some (.int x6), some (.int s0)] [] (mjTo Z136) _
            refine pG_many 3 (pc1 := 69) (L1 := [some (.ref 190), some (.ref x1), some (.int x2), (mjK1 d3), some (.int (x4 + (-1))), d5, some (.int x6), some (.int s0)]) (st1 := []) (M1 := mjTo Z136) (fun _ _ => rfl) ?_
            exact hR x1 x2 (x4 + (-1)) ((mjK1 d3)) d5 (some (.int x6)) (some (.int s0)) Z136 v9 Z9 h
        · rw [if_neg hc133] at h
          refine pG_iff (t := 183) rfl rfl hc133 ?_
          refine pG_many 2 (pc1 := 184) (L1 := [some (.ref 190), some (.ref x1), some (.int x2), d3, some (.int x4), d5, some (.int x6), some (.int s0)]) (st1 := [.int 1, .int (x4 - 1), .ref 190]) (M1 := mjTo Z128) (fun _ _ => rfl) ?_
          cases hq137 : f89_pick (x4 - 1) 1 Z128 with
          | none => rw [hq137] at h; cases h
          | some w =>
            obtain ⟨v138, Z139⟩ := w
            rw [hq137, mjBd_some] at h
            refine pG_callV (k2 := 88) (As := [.ref 190, .int (x4 - 1), .int 1]) (rest := []) rfl rfl rfl rfl rfl (by rfl) (by decide) (by decide) (f89_pick_ok hq137) ?_
            rintro r9 M9 ⟨rfl, rfl⟩
            show pG 89 187 [some (.ref 190), some (.ref x1), some (.int x2), d3, some (.int x4), d5, some (.int x6), some (.int s0)] [] (mjTo Z139) _
            refine pG_many 3 (pc1 := 69) (L1 := [some (.ref 190), some (.ref x1), some (.int x2), (mjK1 d3), some (.int (x4 + (-1))), d5, some (.int x6), some (.int s0)]) (st1 := []) (M1 := mjTo Z139) (fun _ _ => rfl) ?_
            exact hR x1 x2 (x4 + (-1)) ((mjK1 d3)) d5 (some (.int x6)) (some (.int s0)) Z139 v9 Z9 h
def f90_choose_j145 (R : Nat → Int32 → Int32 → mjZt → Option (Unit × mjZt)) (x1 : Nat) (x2 : Int32) (x4 : Int32) (x6 : Int32) (Z : mjZt) : Option (Unit × mjZt) :=
  f90_choose_j150 R x1 x2 x4 x6 1 Z
theorem f90_choose_j145_ok (R : Nat → Int32 → Int32 → mjZt → Option (Unit × mjZt)) (hR : ∀ (x1 : Nat) (x2 : Int32) (x4 : Int32) (d3 d5 d6 d7 : Option Value) (Z : mjZt) (v9 : Unit) (Z9 : mjZt), R x1 x2 x4 Z = some (v9, Z9) → pG 89 69 [some (.ref 190), some (.ref x1), some (.int x2), d3, some (.int x4), d5, d6, d7] [] (mjTo Z) (fun r M1 => r = none ∧ M1 = mjTo Z9)) (x1 : Nat) (x2 : Int32) (x4 : Int32) (x6 : Int32) (d3 d5 d7 : Option Value) (Z : mjZt) (v9 : Unit) (Z9 : mjZt) (h : f90_choose_j145 R x1 x2 x4 x6 Z = some (v9, Z9)) : pG 89 145 [some (.ref 190), some (.ref x1), some (.int x2), d3, some (.int x4), d5, some (.int x6), d7] [] (mjTo Z) (fun r M1 => r = none ∧ M1 = mjTo Z9) := by
  unfold f90_choose_j145 at h
  refine pG_many 2 (pc1 := 150) (L1 := [some (.ref 190), some (.ref x1), some (.int x2), d3, some (.int x4), d5, some (.int x6), d7]) (st1 := [.int 1]) (M1 := mjTo Z) (fun _ _ => rfl) ?_
  exact f90_choose_j150_ok R hR x1 x2 x4 x6 1 d3 d5 d7 Z v9 Z9 h
def f90_choose_j120 (R : Nat → Int32 → Int32 → mjZt → Option (Unit × mjZt)) (x1 : Nat) (x2 : Int32) (x4 : Int32) (x5 : Int32) (Z : mjZt) : Option (Unit × mjZt) :=
  mjBp (f86_isOfBoth x5 x4 Z) fun v119 =>
  if mjCmp .ne v119 0 = true then
    f90_choose_j145 R x1 x2 x4 v119 Z
  else
    mjBp (f87_isLeftEnough x1 x4 Z) fun v141 =>
    if mjCmp .eq v141 0 = true then
      f90_choose_j150 R x1 x2 x4 v119 0 Z
    else
      f90_choose_j145 R x1 x2 x4 v119 Z
theorem f90_choose_j120_ok (R : Nat → Int32 → Int32 → mjZt → Option (Unit × mjZt)) (hR : ∀ (x1 : Nat) (x2 : Int32) (x4 : Int32) (d3 d5 d6 d7 : Option Value) (Z : mjZt) (v9 : Unit) (Z9 : mjZt), R x1 x2 x4 Z = some (v9, Z9) → pG 89 69 [some (.ref 190), some (.ref x1), some (.int x2), d3, some (.int x4), d5, d6, d7] [] (mjTo Z) (fun r M1 => r = none ∧ M1 = mjTo Z9)) (x1 : Nat) (x2 : Int32) (x4 : Int32) (x5 : Int32) (d3 d6 d7 : Option Value) (Z : mjZt) (v9 : Unit) (Z9 : mjZt) (h : f90_choose_j120 R x1 x2 x4 x5 Z = some (v9, Z9)) : pG 89 120 [some (.ref 190), some (.ref x1), some (.int x2), d3, some (.int x4), some (.int x5), d6, d7] [] (mjTo Z) (fun r M1 => r = none ∧ M1 = mjTo Z9) := by
  unfold f90_choose_j120 at h
  refine pG_many 3 (pc1 := 125) (L1 := [some (.ref 190), some (.ref x1), some (.int x2), d3, some (.int x4), some (.int x5), d6, d7]) (st1 := [.int x4, .int x5, .ref 190]) (M1 := mjTo Z) (fun _ _ => rfl) ?_
  cases hq118 : f86_isOfBoth x5 x4 Z with
  | none => rw [hq118] at h; cases h
  | some v119 =>
    rw [hq118, mjBp_some] at h
    refine pG_callV (k2 := 85) (As := [.ref 190, .int x5, .int x4]) (rest := []) rfl rfl rfl rfl rfl (by rfl) (by decide) (by decide) (f86_isOfBoth_ok hq118) ?_
    rintro r9 M9 ⟨rfl, rfl⟩
    show pG 89 128 [some (.ref 190), some (.ref x1), some (.int x2), d3, some (.int x4), some (.int x5), d6, d7] [.int v119] (mjTo Z) _
    refine pG_many 2 (pc1 := 132) (L1 := [some (.ref 190), some (.ref x1), some (.int x2), d3, some (.int x4), some (.int x5), some (.int v119), d7]) (st1 := [.int v119]) (M1 := mjTo Z) (fun _ _ => rfl) ?_
    by_cases hc121 : mjCmp .ne v119 0 = true
    · rw [if_pos hc121] at h
      refine pG_ift (t := 145) rfl rfl hc121 ?_
      exact f90_choose_j145_ok R hR x1 x2 x4 v119 d3 (some (.int x5)) d7 Z v9 Z9 h
    · rw [if_neg hc121] at h
      refine pG_iff (t := 145) rfl rfl hc121 ?_
      refine pG_many 3 (pc1 := 139) (L1 := [some (.ref 190), some (.ref x1), some (.int x2), d3, some (.int x4), some (.int x5), some (.int v119), d7]) (st1 := [.int x4, .ref x1, .ref 190]) (M1 := mjTo Z) (fun _ _ => rfl) ?_
      cases hq140 : f87_isLeftEnough x1 x4 Z with
      | none => rw [hq140] at h; cases h
      | some v141 =>
        rw [hq140, mjBp_some] at h
        refine pG_callV (k2 := 86) (As := [.ref 190, .ref x1, .int x4]) (rest := []) rfl rfl rfl rfl rfl (by rfl) (by decide) (by decide) (f87_isLeftEnough_ok hq140) ?_
        rintro r9 M9 ⟨rfl, rfl⟩
        show pG 89 142 [some (.ref 190), some (.ref x1), some (.int x2), d3, some (.int x4), some (.int x5), some (.int v119), d7] [.int v141] (mjTo Z) _
        by_cases hc143 : mjCmp .eq v141 0 = true
        · rw [if_pos hc143] at h
          refine pG_ift (t := 149) rfl rfl hc143 ?_
          refine pG_many 1 (pc1 := 150) (L1 := [some (.ref 190), some (.ref x1), some (.int x2), d3, some (.int x4), some (.int x5), some (.int v119), d7]) (st1 := [.int 0]) (M1 := mjTo Z) (fun _ _ => rfl) ?_
          exact f90_choose_j150_ok R hR x1 x2 x4 v119 0 d3 (some (.int x5)) d7 Z v9 Z9 h
        · rw [if_neg hc143] at h
          refine pG_iff (t := 149) rfl rfl hc143 ?_
          exact f90_choose_j145_ok R hR x1 x2 x4 v119 d3 (some (.int x5)) d7 Z v9 Z9 h
def f90_choose_h69 : Nat → Nat → Int32 → Int32 → mjZt → Option (Unit × mjZt)
  | 0, _, _, _, _ => none
  | n + 1, x1, x2, x4, Z =>
    if mjCmp .lt x4 x2 = true then
      some ((), Z)
    else
      if mjCmp .lt x4 0 = true then
        some ((), Z)
      else
        if mjCmp .ge x4 700 = true then
          some ((), Z)
        else
          if mjIs x1 211 8 = true then
          mjBp (f79_opAt x1 x4 Z) fun v107 =>
          if mjIn x4 700 = true then
          if mjCmp .eq (Z.1 194 (mjIx x4)) 0 = true then
            f90_choose_j190 (f90_choose_h69 n) x1 x2 x4 v107 Z
          else
            if mjCmp .eq v107 5 = true then
              f90_choose_j120 (f90_choose_h69 n) x1 x2 x4 v107 Z
            else
              if mjCmp .ne v107 4 = true then
                f90_choose_j190 (f90_choose_h69 n) x1 x2 x4 v107 Z
              else
                f90_choose_j120 (f90_choose_h69 n) x1 x2 x4 v107 Z
          else none
          else none
theorem f90_choose_h69_ok : ∀ (n : Nat) (x1 : Nat) (x2 : Int32) (x4 : Int32) (d3 d5 d6 d7 : Option Value) (Z : mjZt) (v9 : Unit) (Z9 : mjZt), f90_choose_h69 n x1 x2 x4 Z = some (v9, Z9) → pG 89 69 [some (.ref 190), some (.ref x1), some (.int x2), d3, some (.int x4), d5, d6, d7] [] (mjTo Z) (fun r M1 => r = none ∧ M1 = mjTo Z9)
  | 0, x1, x2, x4, d3, d5, d6, d7, Z, v9, Z9, h => by rw [f90_choose_h69] at h; cases h
  | n + 1, x1, x2, x4, d3, d5, d6, d7, Z, v9, Z9, h => by
      rw [f90_choose_h69] at h
      refine pG_many 2 (pc1 := 72) (L1 := [some (.ref 190), some (.ref x1), some (.int x2), d3, some (.int x4), d5, d6, d7]) (st1 := [.int x2, .int x4]) (M1 := mjTo Z) (fun _ _ => rfl) ?_
      by_cases hc102 : mjCmp .lt x4 x2 = true
      · rw [if_pos hc102] at h
        refine pG_cmt (t := 222) rfl rfl hc102 ?_
        simp only [Option.some.injEq, Prod.mk.injEq] at h
        obtain ⟨-, rfl⟩ := h
        exact pG_ret (r := none) rfl ⟨rfl, rfl⟩
      · rw [if_neg hc102] at h
        refine pG_cmf (t := 222) rfl rfl hc102 ?_
        refine pG_many 1 (pc1 := 77) (L1 := [some (.ref 190), some (.ref x1), some (.int x2), d3, some (.int x4), d5, d6, d7]) (st1 := [.int x4]) (M1 := mjTo Z) (fun _ _ => rfl) ?_
        by_cases hc103 : mjCmp .lt x4 0 = true
        · rw [if_pos hc103] at h
          refine pG_ift (t := 222) rfl rfl hc103 ?_
          simp only [Option.some.injEq, Prod.mk.injEq] at h
          obtain ⟨-, rfl⟩ := h
          exact pG_ret (r := none) rfl ⟨rfl, rfl⟩
        · rw [if_neg hc103] at h
          refine pG_iff (t := 222) rfl rfl hc103 ?_
          refine pG_many 2 (pc1 := 83) (L1 := [some (.ref 190), some (.ref x1), some (.int x2), d3, some (.int x4), d5, d6, d7]) (st1 := [.ref 190, .int x4]) (M1 := mjTo Z) (fun _ _ => rfl) ?_
          refine pG_getR (ci := 4) (f := 3) (b := 194) rfl rfl rfl (by rfl) (by decide) rfl ?_
          refine pG_len rfl (by decide) (by decide) (by decide) ?_
          by_cases hc104 : mjCmp .ge x4 700 = true
          · rw [if_pos hc104] at h
            refine pG_cmt (t := 222) rfl rfl hc104 ?_
            simp only [Option.some.injEq, Prod.mk.injEq] at h
            obtain ⟨-, rfl⟩ := h
            exact pG_ret (r := none) rfl ⟨rfl, rfl⟩
          · rw [if_neg hc104] at h
            refine pG_cmf (t := 222) rfl rfl hc104 ?_
            refine pG_many 2 (pc1 := 93) (L1 := [some (.ref 190), some (.ref x1), some (.int x2), d3, some (.int x4), d5, d6, d7]) (st1 := [.int x4, .ref x1]) (M1 := mjTo Z) (fun _ _ => rfl) ?_
            have hk105 : mjIs x1 211 8 = true := by
              by_cases q9 : mjIs x1 211 8 = true
              · exact q9
              · rw [if_neg q9] at h; cases h
            rw [if_pos hk105] at h
            cases hq106 : f79_opAt x1 x4 Z with
            | none => rw [hq106] at h; cases h
            | some v107 =>
              rw [hq106, mjBp_some] at h
              refine pG_callV (k2 := 78) (As := [.ref x1, .int x4]) (rest := []) rfl rfl rfl rfl rfl (mjRcv_is hk105 (by decide)) (by decide) (by decide) (f79_opAt_ok hq106) ?_
              rintro r9 M9 ⟨rfl, rfl⟩
              show pG 89 96 [some (.ref 190), some (.ref x1), some (.int x2), d3, some (.int x4), d5, d6, d7] [.int v107] (mjTo Z) _
              refine pG_many 2 (pc1 := 99) (L1 := [some (.ref 190), some (.ref x1), some (.int x2), d3, some (.int x4), some (.int v107), d6, d7]) (st1 := [.ref 190]) (M1 := mjTo Z) (fun _ _ => rfl) ?_
              refine pG_getR (ci := 4) (f := 3) (b := 194) rfl rfl rfl (by rfl) (by decide) rfl ?_
              refine pG_many 1 (pc1 := 104) (L1 := [some (.ref 190), some (.ref x1), some (.int x2), d3, some (.int x4), some (.int v107), d6, d7]) (st1 := [.int x4, .ref 194]) (M1 := mjTo Z) (fun _ _ => rfl) ?_
              have hk109 : mjIn x4 700 = true := by
                by_cases q9 : mjIn x4 700 = true
                · exact q9
                · rw [if_neg q9] at h; cases h
              rw [if_pos hk109] at h
              refine pG_bal rfl (by rfl) hk109 ?_
              by_cases hc110 : mjCmp .eq (Z.1 194 (mjIx x4)) 0 = true
              · rw [if_pos hc110] at h
                refine pG_ift (t := 190) rfl rfl hc110 ?_
                exact f90_choose_j190_ok (f90_choose_h69 n) (fun x1 x2 x4 d3 d5 d6 d7 Z v9 Z9 h => f90_choose_h69_ok n x1 x2 x4 d3 d5 d6 d7 Z v9 Z9 h) x1 x2 x4 v107 d3 d6 d7 Z v9 Z9 h
              · rw [if_neg hc110] at h
                refine pG_iff (t := 190) rfl rfl hc110 ?_
                refine pG_many 2 (pc1 := 111) (L1 := [some (.ref 190), some (.ref x1), some (.int x2), d3, some (.int x4), some (.int v107), d6, d7]) (st1 := [.int 5, .int v107]) (M1 := mjTo Z) (fun _ _ => rfl) ?_
                by_cases hc117 : mjCmp .eq v107 5 = true
                · rw [if_pos hc117] at h
                  refine pG_cmt (t := 120) rfl rfl hc117 ?_
                  exact f90_choose_j120_ok (f90_choose_h69 n) (fun x1 x2 x4 d3 d5 d6 d7 Z v9 Z9 h => f90_choose_h69_ok n x1 x2 x4 d3 d5 d6 d7 Z v9 Z9 h) x1 x2 x4 v107 d3 d6 d7 Z v9 Z9 h
                · rw [if_neg hc117] at h
                  refine pG_cmf (t := 120) rfl rfl hc117 ?_
                  refine pG_many 2 (pc1 := 117) (L1 := [some (.ref 190), some (.ref x1), some (.int x2), d3, some (.int x4), some (.int v107), d6, d7]) (st1 := [.int 4, .int v107]) (M1 := mjTo Z) (fun _ _ => rfl) ?_
                  by_cases hc144 : mjCmp .ne v107 4 = true
                  · rw [if_pos hc144] at h
                    refine pG_cmt (t := 190) rfl rfl hc144 ?_
                    exact f90_choose_j190_ok (f90_choose_h69 n) (fun x1 x2 x4 d3 d5 d6 d7 Z v9 Z9 h => f90_choose_h69_ok n x1 x2 x4 d3 d5 d6 d7 Z v9 Z9 h) x1 x2 x4 v107 d3 d6 d7 Z v9 Z9 h
                  · rw [if_neg hc144] at h
                    refine pG_cmf (t := 190) rfl rfl hc144 ?_
                    exact f90_choose_j120_ok (f90_choose_h69 n) (fun x1 x2 x4 d3 d5 d6 d7 Z v9 Z9 h => f90_choose_h69_ok n x1 x2 x4 d3 d5 d6 d7 Z v9 Z9 h) x1 x2 x4 v107 d3 d6 d7 Z v9 Z9 h
def f90_choose_j64 (x1 : Nat) (x2 : Int32) (x3 : Int32) (Z : mjZt) : Option (Unit × mjZt) :=
  f90_choose_h69 mjF x1 x2 (x3 - 1) Z
theorem f90_choose_j64_ok (x1 : Nat) (x2 : Int32) (x3 : Int32) (d4 d5 d6 d7 : Option Value) (Z : mjZt) (v9 : Unit) (Z9 : mjZt) (h : f90_choose_j64 x1 x2 x3 Z = some (v9, Z9)) : pG 89 64 [some (.ref 190), some (.ref x1), some (.int x2), some (.int x3), d4, d5, d6, d7] [] (mjTo Z) (fun r M1 => r = none ∧ M1 = mjTo Z9) := by
  unfold f90_choose_j64 at h
  refine pG_many 4 (pc1 := 69) (L1 := [some (.ref 190), some (.ref x1), some (.int x2), some (.int x3), some (.int (x3 - 1)), d5, d6, d7]) (st1 := []) (M1 := mjTo Z) (fun _ _ => rfl) ?_
  exact f90_choose_h69_ok mjF x1 x2 (x3 - 1) (some (.int x3)) d5 d6 d7 Z v9 Z9 h
def f90_choose_h3 : Nat → Nat → Int32 → Int32 → Int32 → mjZt → Option (Unit × mjZt)
  | 0, _, _, _, _, _ => none
  | n + 1, x1, x2, x3, x4, Z =>
    if mjCmp .lt x4 0 = true then
      f90_choose_j64 x1 x2 x3 Z
    else
      if mjCmp .ge x4 x3 = true then
        f90_choose_j64 x1 x2 x3 Z
      else
        if mjCmp .ge x4 700 = true then
          f90_choose_j64 x1 x2 x3 Z
        else
          mjBp (f88_weigh x1 x4 Z) fun v148 =>
          if mjIn x4 700 = true then
          mjLet (zSi Z 193 (mjIx x4) v148) fun Z151 =>
          if mjCmp .ne x4 (x3 - 1) = true then
            mjLet (zSi Z151 194 (mjIx x4) 0) fun Z153 =>
            f90_choose_h3 n x1 x2 x3 (x4 + 1) Z153
          else
            mjLet (zSi Z151 194 (mjIx x4) 1) fun Z154 =>
            f90_choose_h3 n x1 x2 x3 (x4 + 1) Z154
          else none
theorem f90_choose_h3_ok : ∀ (n : Nat) (x1 : Nat) (x2 : Int32) (x3 : Int32) (x4 : Int32) (d5 d6 d7 : Option Value) (Z : mjZt) (v9 : Unit) (Z9 : mjZt), f90_choose_h3 n x1 x2 x3 x4 Z = some (v9, Z9) → pG 89 3 [some (.ref 190), some (.ref x1), some (.int x2), some (.int x3), some (.int x4), d5, d6, d7] [] (mjTo Z) (fun r M1 => r = none ∧ M1 = mjTo Z9)
  | 0, x1, x2, x3, x4, d5, d6, d7, Z, v9, Z9, h => by rw [f90_choose_h3] at h; cases h
  | n + 1, x1, x2, x3, x4, d5, d6, d7, Z, v9, Z9, h => by
      rw [f90_choose_h3] at h
      refine pG_many 1 (pc1 := 5) (L1 := [some (.ref 190), some (.ref x1), some (.int x2), some (.int x3), some (.int x4), d5, d6, d7]) (st1 := [.int x4]) (M1 := mjTo Z) (fun _ _ => rfl) ?_
      by_cases hc101 : mjCmp .lt x4 0 = true
      · rw [if_pos hc101] at h
        refine pG_ift (t := 64) rfl rfl hc101 ?_
        exact f90_choose_j64_ok x1 x2 x3 (some (.int x4)) d5 d6 d7 Z v9 Z9 h
      · rw [if_neg hc101] at h
        refine pG_iff (t := 64) rfl rfl hc101 ?_
        refine pG_many 2 (pc1 := 11) (L1 := [some (.ref 190), some (.ref x1), some (.int x2), some (.int x3), some (.int x4), d5, d6, d7]) (st1 := [.int x3, .int x4]) (M1 := mjTo Z) (fun _ _ => rfl) ?_
        by_cases hc145 : mjCmp .ge x4 x3 = true
        · rw [if_pos hc145] at h
          refine pG_cmt (t := 64) rfl rfl hc145 ?_
          exact f90_choose_j64_ok x1 x2 x3 (some (.int x4)) d5 d6 d7 Z v9 Z9 h
        · rw [if_neg hc145] at h
          refine pG_cmf (t := 64) rfl rfl hc145 ?_
          refine pG_many 2 (pc1 := 17) (L1 := [some (.ref 190), some (.ref x1), some (.int x2), some (.int x3), some (.int x4), d5, d6, d7]) (st1 := [.ref 190, .int x4]) (M1 := mjTo Z) (fun _ _ => rfl) ?_
          refine pG_getR (ci := 4) (f := 2) (b := 193) rfl rfl rfl (by rfl) (by decide) rfl ?_
          refine pG_len rfl (by decide) (by decide) (by decide) ?_
          by_cases hc146 : mjCmp .ge x4 700 = true
          · rw [if_pos hc146] at h
            refine pG_cmt (t := 64) rfl rfl hc146 ?_
            exact f90_choose_j64_ok x1 x2 x3 (some (.int x4)) d5 d6 d7 Z v9 Z9 h
          · rw [if_neg hc146] at h
            refine pG_cmf (t := 64) rfl rfl hc146 ?_
            refine pG_many 1 (pc1 := 25) (L1 := [some (.ref 190), some (.ref x1), some (.int x2), some (.int x3), some (.int x4), d5, d6, d7]) (st1 := [.ref 190]) (M1 := mjTo Z) (fun _ _ => rfl) ?_
            refine pG_getR (ci := 4) (f := 2) (b := 193) rfl rfl rfl (by rfl) (by decide) rfl ?_
            refine pG_many 4 (pc1 := 34) (L1 := [some (.ref 190), some (.ref x1), some (.int x2), some (.int x3), some (.int x4), d5, d6, d7]) (st1 := [.int x4, .ref x1, .ref 190, .int x4, .ref 193]) (M1 := mjTo Z) (fun _ _ => rfl) ?_
            cases hq147 : f88_weigh x1 x4 Z with
            | none => rw [hq147] at h; cases h
            | some v148 =>
              rw [hq147, mjBp_some] at h
              refine pG_callV (k2 := 87) (As := [.ref 190, .ref x1, .int x4]) (rest := [.int x4, .ref 193]) rfl rfl rfl rfl rfl (by rfl) (by decide) (by decide) (f88_weigh_ok hq147) ?_
              rintro r9 M9 ⟨rfl, rfl⟩
              show pG 89 37 [some (.ref 190), some (.ref x1), some (.int x2), some (.int x3), some (.int x4), d5, d6, d7] [.int v148, .int x4, .ref 193] (mjTo Z) _
              have hk150 : mjIn x4 700 = true := by
                by_cases q9 : mjIn x4 700 = true
                · exact q9
                · rw [if_neg q9] at h; cases h
              rw [if_pos hk150] at h
              refine pG_ias rfl (by rfl) hk150 (?_ : pG 89 38 [some (.ref 190), some (.ref x1), some (.int x2), some (.int x3), some (.int x4), d5, d6, d7] [] (mjTo (zSi Z 193 (mjIx x4) v148)) _)
              rw [mjLet] at h
              generalize zSi Z 193 (mjIx x4) v148 = Z151 at h ⊢
              refine pG_many 1 (pc1 := 39) (L1 := [some (.ref 190), some (.ref x1), some (.int x2), some (.int x3), some (.int x4), d5, d6, d7]) (st1 := [.ref 190]) (M1 := mjTo Z151) (fun _ _ => rfl) ?_
              refine pG_getR (ci := 4) (f := 3) (b := 194) rfl rfl rfl (by rfl) (by decide) rfl ?_
              refine pG_many 5 (pc1 := 49) (L1 := [some (.ref 190), some (.ref x1), some (.int x2), some (.int x3), some (.int x4), d5, d6, d7]) (st1 := [.int (x3 - 1), .int x4, .int x4, .ref 194]) (M1 := mjTo Z151) (fun _ _ => rfl) ?_
              by_cases hc152 : mjCmp .ne x4 (x3 - 1) = true
              · rw [if_pos hc152] at h
                refine pG_cmt (t := 56) rfl rfl hc152 ?_
                refine pG_many 1 (pc1 := 57) (L1 := [some (.ref 190), some (.ref x1), some (.int x2), some (.int x3), some (.int x4), d5, d6, d7]) (st1 := [.int 0, .int x4, .ref 194]) (M1 := mjTo Z151) (fun _ _ => rfl) ?_
                refine pG_bas rfl (by rfl) hk150 (Or.inl rfl) (?_ : pG 89 58 [some (.ref 190), some (.ref x1), some (.int x2), some (.int x3), some (.int x4), d5, d6, d7] [] (mjTo (zSi Z151 194 (mjIx x4) 0)) _)
                rw [mjLet] at h
                generalize zSi Z151 194 (mjIx x4) 0 = Z153 at h ⊢
                refine pG_many 2 (pc1 := 3) (L1 := [some (.ref 190), some (.ref x1), some (.int x2), some (.int x3), some (.int (x4 + 1)), d5, d6, d7]) (st1 := []) (M1 := mjTo Z153) (fun _ _ => rfl) ?_
                exact f90_choose_h3_ok n x1 x2 x3 (x4 + 1) d5 d6 d7 Z153 v9 Z9 h
              · rw [if_neg hc152] at h
                refine pG_cmf (t := 56) rfl rfl hc152 ?_
                refine pG_many 2 (pc1 := 57) (L1 := [some (.ref 190), some (.ref x1), some (.int x2), some (.int x3), some (.int x4), d5, d6, d7]) (st1 := [.int 1, .int x4, .ref 194]) (M1 := mjTo Z151) (fun _ _ => rfl) ?_
                refine pG_bas rfl (by rfl) hk150 (Or.inr rfl) (?_ : pG 89 58 [some (.ref 190), some (.ref x1), some (.int x2), some (.int x3), some (.int x4), d5, d6, d7] [] (mjTo (zSi Z151 194 (mjIx x4) 1)) _)
                rw [mjLet] at h
                generalize zSi Z151 194 (mjIx x4) 1 = Z154 at h ⊢
                refine pG_many 2 (pc1 := 3) (L1 := [some (.ref 190), some (.ref x1), some (.int x2), some (.int x3), some (.int (x4 + 1)), d5, d6, d7]) (st1 := []) (M1 := mjTo Z154) (fun _ _ => rfl) ?_
                exact f90_choose_h3_ok n x1 x2 x3 (x4 + 1) d5 d6 d7 Z154 v9 Z9 h
def f90_choose (p0 : Nat) (p1 : Int32) (p2 : Int32) (Z : mjZt) : Option (Unit × mjZt) :=
  f90_choose_h3 mjF p0 p1 p2 p1 Z
theorem f90_choose_ok {p0 : Nat} {p1 : Int32} {p2 : Int32} {Z : mjZt} {v9 : Unit} {Z9 : mjZt} (h : f90_choose p0 p1 p2 Z = some (v9, Z9)) : pG 89 0 (mjEnt [.ref 190, .ref p0, .int p1, .int p2] (mjML 89)) [] (mjTo Z) (fun r M1 => r = none ∧ M1 = mjTo Z9) := by
  unfold f90_choose at h
  show pG 89 0 [some (.ref 190), some (.ref p0), some (.int p1), some (.int p2), none, none, none, none] [] (mjTo Z) _
  refine pG_many 2 (pc1 := 3) (L1 := [some (.ref 190), some (.ref p0), some (.int p1), some (.int p2), some (.int p1), none, none, none]) (st1 := []) (M1 := mjTo Z) (fun _ _ => rfl) ?_
  exact f90_choose_h3_ok mjF p0 p1 p2 p1 none none none Z v9 Z9 h
def f91_reason_h32 : Nat → Nat → Int32 → Int32 → Int32 → Int32 → mjZt → Option (Int32 × mjZt)
  | 0, _, _, _, _, _, _ => none
  | n + 1, x1, x4, x6, x7, x8, Z =>
    if mjCmp .lt x8 0 = true then
      if mjCmp .ne x4 ((-1)) = true then
        some ((-1), Z)
      else
        some (x7, Z)
    else
      if mjCmp .ge x8 x6 = true then
        if mjCmp .ne x4 ((-1)) = true then
          some ((-1), Z)
        else
          some (x7, Z)
      else
        if mjCmp .ge x8 700 = true then
          if mjCmp .ne x4 ((-1)) = true then
            some ((-1), Z)
          else
            some (x7, Z)
        else
          if mjIn x8 700 = true then
          if mjCmp .eq (Z.1 194 (mjIx x8)) 0 = true then
            f91_reason_h32 n x1 x4 x6 x7 (x8 + 1) Z
          else
            if mjIs x1 211 8 = true then
            mjBp (f79_opAt x1 x8 Z) fun v121 =>
            mjBp (f58_isComparison v121 Z) fun v124 =>
            if mjCmp .eq v124 0 = true then
              f91_reason_h32 n x1 x4 x6 x7 (x8 + 1) Z
            else
              if mjCmp .ne x7 x4 = true then
                f91_reason_h32 n x1 x4 x6 (x7 + 1) (x8 + 1) Z
              else
                mjBp (f80_numberAt x1 x8 Z) fun v129 =>
                some (v129, Z)
            else none
          else none
theorem f91_reason_h32_ok : ∀ (n : Nat) (x1 : Nat) (x4 : Int32) (x6 : Int32) (x7 : Int32) (x8 : Int32) (d2 d3 d5 : Option Value) (Z : mjZt) (v9 : Int32) (Z9 : mjZt), f91_reason_h32 n x1 x4 x6 x7 x8 Z = some (v9, Z9) → pG 90 32 [some (.ref 190), some (.ref x1), d2, d3, some (.int x4), d5, some (.int x6), some (.int x7), some (.int x8)] [] (mjTo Z) (fun r M1 => r = some (.int v9) ∧ M1 = mjTo Z9)
  | 0, x1, x4, x6, x7, x8, d2, d3, d5, Z, v9, Z9, h => by rw [f91_reason_h32] at h; cases h
  | n + 1, x1, x4, x6, x7, x8, d2, d3, d5, Z, v9, Z9, h => by
      rw [f91_reason_h32] at h
      refine pG_many 1 (pc1 := 34) (L1 := [some (.ref 190), some (.ref x1), d2, d3, some (.int x4), d5, some (.int x6), some (.int x7), some (.int x8)]) (st1 := [.int x8]) (M1 := mjTo Z) (fun _ _ => rfl) ?_
      by_cases hc111 : mjCmp .lt x8 0 = true
      · rw [if_pos hc111] at h
        refine pG_ift (t := 99) rfl rfl hc111 ?_
        refine pG_many 2 (pc1 := 102) (L1 := [some (.ref 190), some (.ref x1), d2, d3, some (.int x4), d5, some (.int x6), some (.int x7), some (.int x8)]) (st1 := [.int ((-1)), .int x4]) (M1 := mjTo Z) (fun _ _ => rfl) ?_
        by_cases hc112 : mjCmp .ne x4 ((-1)) = true
        · rw [if_pos hc112] at h
          refine pG_cmt (t := 110) rfl rfl hc112 ?_
          refine pG_many 1 (pc1 := 111) (L1 := [some (.ref 190), some (.ref x1), d2, d3, some (.int x4), d5, some (.int x6), some (.int x7), some (.int x8)]) (st1 := [.int ((-1))]) (M1 := mjTo Z) (fun _ _ => rfl) ?_
          simp only [Option.some.injEq, Prod.mk.injEq] at h
          obtain ⟨rfl, rfl⟩ := h
          exact pG_ret (r := some (.int ((-1)))) rfl ⟨rfl, rfl⟩
        · rw [if_neg hc112] at h
          refine pG_cmf (t := 110) rfl rfl hc112 ?_
          refine pG_many 2 (pc1 := 111) (L1 := [some (.ref 190), some (.ref x1), d2, d3, some (.int x4), d5, some (.int x6), some (.int x7), some (.int x8)]) (st1 := [.int x7]) (M1 := mjTo Z) (fun _ _ => rfl) ?_
          simp only [Option.some.injEq, Prod.mk.injEq] at h
          obtain ⟨rfl, rfl⟩ := h
          exact pG_ret (r := some (.int x7)) rfl ⟨rfl, rfl⟩
      · rw [if_neg hc111] at h
        refine pG_iff (t := 99) rfl rfl hc111 ?_
        refine pG_many 2 (pc1 := 41) (L1 := [some (.ref 190), some (.ref x1), d2, d3, some (.int x4), d5, some (.int x6), some (.int x7), some (.int x8)]) (st1 := [.int x6, .int x8]) (M1 := mjTo Z) (fun _ _ => rfl) ?_
        by_cases hc113 : mjCmp .ge x8 x6 = true
        · rw [if_pos hc113] at h
          refine pG_cmt (t := 99) rfl rfl hc113 ?_
          refine pG_many 2 (pc1 := 102) (L1 := [some (.ref 190), some (.ref x1), d2, d3, some (.int x4), d5, some (.int x6), some (.int x7), some (.int x8)]) (st1 := [.int ((-1)), .int x4]) (M1 := mjTo Z) (fun _ _ => rfl) ?_
          by_cases hc114 : mjCmp .ne x4 ((-1)) = true
          · rw [if_pos hc114] at h
            refine pG_cmt (t := 110) rfl rfl hc114 ?_
            refine pG_many 1 (pc1 := 111) (L1 := [some (.ref 190), some (.ref x1), d2, d3, some (.int x4), d5, some (.int x6), some (.int x7), some (.int x8)]) (st1 := [.int ((-1))]) (M1 := mjTo Z) (fun _ _ => rfl) ?_
            simp only [Option.some.injEq, Prod.mk.injEq] at h
            obtain ⟨rfl, rfl⟩ := h
            exact pG_ret (r := some (.int ((-1)))) rfl ⟨rfl, rfl⟩
          · rw [if_neg hc114] at h
            refine pG_cmf (t := 110) rfl rfl hc114 ?_
            refine pG_many 2 (pc1 := 111) (L1 := [some (.ref 190), some (.ref x1), d2, d3, some (.int x4), d5, some (.int x6), some (.int x7), some (.int x8)]) (st1 := [.int x7]) (M1 := mjTo Z) (fun _ _ => rfl) ?_
            simp only [Option.some.injEq, Prod.mk.injEq] at h
            obtain ⟨rfl, rfl⟩ := h
            exact pG_ret (r := some (.int x7)) rfl ⟨rfl, rfl⟩
        · rw [if_neg hc113] at h
          refine pG_cmf (t := 99) rfl rfl hc113 ?_
          refine pG_many 2 (pc1 := 47) (L1 := [some (.ref 190), some (.ref x1), d2, d3, some (.int x4), d5, some (.int x6), some (.int x7), some (.int x8)]) (st1 := [.ref 190, .int x8]) (M1 := mjTo Z) (fun _ _ => rfl) ?_
          refine pG_getR (ci := 4) (f := 3) (b := 194) rfl rfl rfl (by rfl) (by decide) rfl ?_
          refine pG_len rfl (by decide) (by decide) (by decide) ?_
          by_cases hc115 : mjCmp .ge x8 700 = true
          · rw [if_pos hc115] at h
            refine pG_cmt (t := 99) rfl rfl hc115 ?_
            refine pG_many 2 (pc1 := 102) (L1 := [some (.ref 190), some (.ref x1), d2, d3, some (.int x4), d5, some (.int x6), some (.int x7), some (.int x8)]) (st1 := [.int ((-1)), .int x4]) (M1 := mjTo Z) (fun _ _ => rfl) ?_
            by_cases hc116 : mjCmp .ne x4 ((-1)) = true
            · rw [if_pos hc116] at h
              refine pG_cmt (t := 110) rfl rfl hc116 ?_
              refine pG_many 1 (pc1 := 111) (L1 := [some (.ref 190), some (.ref x1), d2, d3, some (.int x4), d5, some (.int x6), some (.int x7), some (.int x8)]) (st1 := [.int ((-1))]) (M1 := mjTo Z) (fun _ _ => rfl) ?_
              simp only [Option.some.injEq, Prod.mk.injEq] at h
              obtain ⟨rfl, rfl⟩ := h
              exact pG_ret (r := some (.int ((-1)))) rfl ⟨rfl, rfl⟩
            · rw [if_neg hc116] at h
              refine pG_cmf (t := 110) rfl rfl hc116 ?_
              refine pG_many 2 (pc1 := 111) (L1 := [some (.ref 190), some (.ref x1), d2, d3, some (.int x4), d5, some (.int x6), some (.int x7), some (.int x8)]) (st1 := [.int x7]) (M1 := mjTo Z) (fun _ _ => rfl) ?_
              simp only [Option.some.injEq, Prod.mk.injEq] at h
              obtain ⟨rfl, rfl⟩ := h
              exact pG_ret (r := some (.int x7)) rfl ⟨rfl, rfl⟩
          · rw [if_neg hc115] at h
            refine pG_cmf (t := 99) rfl rfl hc115 ?_
            refine pG_many 1 (pc1 := 55) (L1 := [some (.ref 190), some (.ref x1), d2, d3, some (.int x4), d5, some (.int x6), some (.int x7), some (.int x8)]) (st1 := [.ref 190]) (M1 := mjTo Z) (fun _ _ => rfl) ?_
            refine pG_getR (ci := 4) (f := 3) (b := 194) rfl rfl rfl (by rfl) (by decide) rfl ?_
            refine pG_many 1 (pc1 := 60) (L1 := [some (.ref 190), some (.ref x1), d2, d3, some (.int x4), d5, some (.int x6), some (.int x7), some (.int x8)]) (st1 := [.int x8, .ref 194]) (M1 := mjTo Z) (fun _ _ => rfl) ?_
            have hk117 : mjIn x8 700 = true := by
              by_cases q9 : mjIn x8 700 = true
              · exact q9
              · rw [if_neg q9] at h; cases h
            rw [if_pos hk117] at h
            refine pG_bal rfl (by rfl) hk117 ?_
            by_cases hc118 : mjCmp .eq (Z.1 194 (mjIx x8)) 0 = true
            · rw [if_pos hc118] at h
              refine pG_ift (t := 93) rfl rfl hc118 ?_
              refine pG_many 2 (pc1 := 32) (L1 := [some (.ref 190), some (.ref x1), d2, d3, some (.int x4), d5, some (.int x6), some (.int x7), some (.int (x8 + 1))]) (st1 := []) (M1 := mjTo Z) (fun _ _ => rfl) ?_
              exact f91_reason_h32_ok n x1 x4 x6 x7 (x8 + 1) d2 d3 d5 Z v9 Z9 h
            · rw [if_neg hc118] at h
              refine pG_iff (t := 93) rfl rfl hc118 ?_
              refine pG_many 2 (pc1 := 67) (L1 := [some (.ref 190), some (.ref x1), d2, d3, some (.int x4), d5, some (.int x6), some (.int x7), some (.int x8)]) (st1 := [.int x8, .ref x1]) (M1 := mjTo Z) (fun _ _ => rfl) ?_
              have hk119 : mjIs x1 211 8 = true := by
                by_cases q9 : mjIs x1 211 8 = true
                · exact q9
                · rw [if_neg q9] at h; cases h
              rw [if_pos hk119] at h
              cases hq120 : f79_opAt x1 x8 Z with
              | none => rw [hq120] at h; cases h
              | some v121 =>
                rw [hq120, mjBp_some] at h
                refine pG_callV (k2 := 78) (As := [.ref x1, .int x8]) (rest := []) rfl rfl rfl rfl rfl (mjRcv_is hk119 (by decide)) (by decide) (by decide) (f79_opAt_ok hq120) ?_
                rintro r9 M9 ⟨rfl, rfl⟩
                show pG 90 70 [some (.ref 190), some (.ref x1), d2, d3, some (.int x4), d5, some (.int x6), some (.int x7), some (.int x8)] [.int v121] (mjTo Z) _
                cases hq123 : f58_isComparison v121 Z with
                | none => rw [hq123] at h; cases h
                | some v124 =>
                  rw [hq123, mjBp_some] at h
                  refine pG_call (k2 := 58) (As := [.int v121]) (rest := []) (fun _ _ => rfl) (by decide) (by decide) (f58_isComparison_ok hq123) ?_
                  rintro r9 M9 ⟨rfl, rfl⟩
                  show pG 90 73 [some (.ref 190), some (.ref x1), d2, d3, some (.int x4), d5, some (.int x6), some (.int x7), some (.int x8)] [.int v124] (mjTo Z) _
                  by_cases hc126 : mjCmp .eq v124 0 = true
                  · rw [if_pos hc126] at h
                    refine pG_ift (t := 93) rfl rfl hc126 ?_
                    refine pG_many 2 (pc1 := 32) (L1 := [some (.ref 190), some (.ref x1), d2, d3, some (.int x4), d5, some (.int x6), some (.int x7), some (.int (x8 + 1))]) (st1 := []) (M1 := mjTo Z) (fun _ _ => rfl) ?_
                    exact f91_reason_h32_ok n x1 x4 x6 x7 (x8 + 1) d2 d3 d5 Z v9 Z9 h
                  · rw [if_neg hc126] at h
                    refine pG_iff (t := 93) rfl rfl hc126 ?_
                    refine pG_many 2 (pc1 := 80) (L1 := [some (.ref 190), some (.ref x1), d2, d3, some (.int x4), d5, some (.int x6), some (.int x7), some (.int x8)]) (st1 := [.int x4, .int x7]) (M1 := mjTo Z) (fun _ _ => rfl) ?_
                    by_cases hc127 : mjCmp .ne x7 x4 = true
                    · rw [if_pos hc127] at h
                      refine pG_cmt (t := 90) rfl rfl hc127 ?_
                      refine pG_many 3 (pc1 := 32) (L1 := [some (.ref 190), some (.ref x1), d2, d3, some (.int x4), d5, some (.int x6), some (.int (x7 + 1)), some (.int (x8 + 1))]) (st1 := []) (M1 := mjTo Z) (fun _ _ => rfl) ?_
                      exact f91_reason_h32_ok n x1 x4 x6 (x7 + 1) (x8 + 1) d2 d3 d5 Z v9 Z9 h
                    · rw [if_neg hc127] at h
                      refine pG_cmf (t := 90) rfl rfl hc127 ?_
                      refine pG_many 2 (pc1 := 86) (L1 := [some (.ref 190), some (.ref x1), d2, d3, some (.int x4), d5, some (.int x6), some (.int x7), some (.int x8)]) (st1 := [.int x8, .ref x1]) (M1 := mjTo Z) (fun _ _ => rfl) ?_
                      cases hq128 : f80_numberAt x1 x8 Z with
                      | none => rw [hq128] at h; cases h
                      | some v129 =>
                        rw [hq128, mjBp_some] at h
                        refine pG_callV (k2 := 79) (As := [.ref x1, .int x8]) (rest := []) rfl rfl rfl rfl rfl (mjRcv_is hk119 (by decide)) (by decide) (by decide) (f80_numberAt_ok hq128) ?_
                        rintro r9 M9 ⟨rfl, rfl⟩
                        show pG 90 89 [some (.ref 190), some (.ref x1), d2, d3, some (.int x4), d5, some (.int x6), some (.int x7), some (.int x8)] [.int v129] (mjTo Z) _
                        simp only [Option.some.injEq, Prod.mk.injEq] at h
                        obtain ⟨rfl, rfl⟩ := h
                        exact pG_ret (r := some (.int v129)) rfl ⟨rfl, rfl⟩
def f91_reason (p0 : Nat) (p1 : Int32) (p2 : Int32) (p3 : Int32) (Z : mjZt) : Option (Int32 × mjZt) :=
  if mjIs p0 211 8 = true then
  mjBp (f77_fromOf p0 p1 p2 Z) fun v103 =>
  mjBp (f78_toOf p0 p1 p2 Z) fun v106 =>
  mjBd (f90_choose p0 v103 v106 Z) fun _ Z110 =>
  f91_reason_h32 mjF p0 p3 v106 0 v103 Z110
  else none
theorem f91_reason_ok {p0 : Nat} {p1 : Int32} {p2 : Int32} {p3 : Int32} {Z : mjZt} {v9 : Int32} {Z9 : mjZt} (h : f91_reason p0 p1 p2 p3 Z = some (v9, Z9)) : pG 90 0 (mjEnt [.ref 190, .ref p0, .int p1, .int p2, .int p3] (mjML 90)) [] (mjTo Z) (fun r M1 => r = some (.int v9) ∧ M1 = mjTo Z9) := by
  unfold f91_reason at h
  show pG 90 0 [some (.ref 190), some (.ref p0), some (.int p1), some (.int p2), some (.int p3), none, none, none, none] [] (mjTo Z) _
  refine pG_many 3 (pc1 := 3) (L1 := [some (.ref 190), some (.ref p0), some (.int p1), some (.int p2), some (.int p3), none, none, none, none]) (st1 := [.int p2, .int p1, .ref p0]) (M1 := mjTo Z) (fun _ _ => rfl) ?_
  have hk101 : mjIs p0 211 8 = true := by
    by_cases q9 : mjIs p0 211 8 = true
    · exact q9
    · rw [if_neg q9] at h; cases h
  rw [if_pos hk101] at h
  cases hq102 : f77_fromOf p0 p1 p2 Z with
  | none => rw [hq102] at h; cases h
  | some v103 =>
    rw [hq102, mjBp_some] at h
    refine pG_callV (k2 := 76) (As := [.ref p0, .int p1, .int p2]) (rest := []) rfl rfl rfl rfl rfl (mjRcv_is hk101 (by decide)) (by decide) (by decide) (f77_fromOf_ok hq102) ?_
    rintro r9 M9 ⟨rfl, rfl⟩
    show pG 90 6 [some (.ref 190), some (.ref p0), some (.int p1), some (.int p2), some (.int p3), none, none, none, none] [.int v103] (mjTo Z) _
    refine pG_many 4 (pc1 := 11) (L1 := [some (.ref 190), some (.ref p0), some (.int p1), some (.int p2), some (.int p3), some (.int v103), none, none, none]) (st1 := [.int p2, .int p1, .ref p0]) (M1 := mjTo Z) (fun _ _ => rfl) ?_
    cases hq105 : f78_toOf p0 p1 p2 Z with
    | none => rw [hq105] at h; cases h
    | some v106 =>
      rw [hq105, mjBp_some] at h
      refine pG_callV (k2 := 77) (As := [.ref p0, .int p1, .int p2]) (rest := []) rfl rfl rfl rfl rfl (mjRcv_is hk101 (by decide)) (by decide) (by decide) (f78_toOf_ok hq105) ?_
      rintro r9 M9 ⟨rfl, rfl⟩
      show pG 90 14 [some (.ref 190), some (.ref p0), some (.int p1), some (.int p2), some (.int p3), some (.int v103), none, none, none] [.int v106] (mjTo Z) _
      refine pG_many 5 (pc1 := 22) (L1 := [some (.ref 190), some (.ref p0), some (.int p1), some (.int p2), some (.int p3), some (.int v103), some (.int v106), none, none]) (st1 := [.int v106, .int v103, .ref p0, .ref 190]) (M1 := mjTo Z) (fun _ _ => rfl) ?_
      cases hq108 : f90_choose p0 v103 v106 Z with
      | none => rw [hq108] at h; cases h
      | some w =>
        obtain ⟨v109, Z110⟩ := w
        rw [hq108, mjBd_some] at h
        refine pG_callV (k2 := 89) (As := [.ref 190, .ref p0, .int v103, .int v106]) (rest := []) rfl rfl rfl rfl rfl (by rfl) (by decide) (by decide) (f90_choose_ok hq108) ?_
        rintro r9 M9 ⟨rfl, rfl⟩
        show pG 90 25 [some (.ref 190), some (.ref p0), some (.int p1), some (.int p2), some (.int p3), some (.int v103), some (.int v106), none, none] [] (mjTo Z110) _
        refine pG_many 4 (pc1 := 32) (L1 := [some (.ref 190), some (.ref p0), some (.int p1), some (.int p2), some (.int p3), some (.int v103), some (.int v106), some (.int 0), some (.int v103)]) (st1 := []) (M1 := mjTo Z110) (fun _ _ => rfl) ?_
        exact f91_reason_h32_ok mjF p0 p3 v106 0 v103 (some (.int p1)) (some (.int p2)) (some (.int v103)) Z110 v9 Z9 h
def f92_isTold (a0 : Nat) (p0 : Int32) (p1 : Int32) (Z : mjZt) : Option Int32 :=
  if mjCmp .lt p1 0 = true then
    some 0
  else
    if mjCmp .ge p1 2 = true then
      some 0
    else
      if mjIs a0 211 8 = true then
      mjBp (f77_fromOf a0 p0 p1 Z) fun v105 =>
      mjBp (f78_toOf a0 p0 p1 Z) fun v108 =>
      if mjCmp .ge v105 v108 = true then
        some 0
      else
        some 1
      else none
theorem f92_isTold_ok {a0 : Nat} {p0 : Int32} {p1 : Int32} {Z : mjZt} {v9 : Int32} (h : f92_isTold a0 p0 p1 Z = some v9) : pG 91 0 (mjEnt [.ref a0, .int p0, .int p1] (mjML 91)) [] (mjTo Z) (fun r M1 => r = some (.int v9) ∧ M1 = mjTo Z) := by
  unfold f92_isTold at h
  show pG 91 0 [some (.ref a0), some (.int p0), some (.int p1)] [] (mjTo Z) _
  refine pG_many 1 (pc1 := 1) (L1 := [some (.ref a0), some (.int p0), some (.int p1)]) (st1 := [.int p1]) (M1 := mjTo Z) (fun _ _ => rfl) ?_
  by_cases hc101 : mjCmp .lt p1 0 = true
  · rw [if_pos hc101] at h
    refine pG_ift (t := 28) rfl rfl hc101 ?_
    refine pG_many 1 (pc1 := 29) (L1 := [some (.ref a0), some (.int p0), some (.int p1)]) (st1 := [.int 0]) (M1 := mjTo Z) (fun _ _ => rfl) ?_
    simp only [Option.some.injEq] at h
    subst h
    exact pG_ret (r := some (.int 0)) rfl ⟨rfl, rfl⟩
  · rw [if_neg hc101] at h
    refine pG_iff (t := 28) rfl rfl hc101 ?_
    refine pG_many 2 (pc1 := 6) (L1 := [some (.ref a0), some (.int p0), some (.int p1)]) (st1 := [.int 2, .int p1]) (M1 := mjTo Z) (fun _ _ => rfl) ?_
    by_cases hc102 : mjCmp .ge p1 2 = true
    · rw [if_pos hc102] at h
      refine pG_cmt (t := 28) rfl rfl hc102 ?_
      refine pG_many 1 (pc1 := 29) (L1 := [some (.ref a0), some (.int p0), some (.int p1)]) (st1 := [.int 0]) (M1 := mjTo Z) (fun _ _ => rfl) ?_
      simp only [Option.some.injEq] at h
      subst h
      exact pG_ret (r := some (.int 0)) rfl ⟨rfl, rfl⟩
    · rw [if_neg hc102] at h
      refine pG_cmf (t := 28) rfl rfl hc102 ?_
      refine pG_many 3 (pc1 := 12) (L1 := [some (.ref a0), some (.int p0), some (.int p1)]) (st1 := [.int p1, .int p0, .ref a0]) (M1 := mjTo Z) (fun _ _ => rfl) ?_
      have hk103 : mjIs a0 211 8 = true := by
        by_cases q9 : mjIs a0 211 8 = true
        · exact q9
        · rw [if_neg q9] at h; cases h
      rw [if_pos hk103] at h
      cases hq104 : f77_fromOf a0 p0 p1 Z with
      | none => rw [hq104] at h; cases h
      | some v105 =>
        rw [hq104, mjBp_some] at h
        refine pG_callV (k2 := 76) (As := [.ref a0, .int p0, .int p1]) (rest := []) rfl rfl rfl rfl rfl (mjRcv_is hk103 (by decide)) (by decide) (by decide) (f77_fromOf_ok hq104) ?_
        rintro r9 M9 ⟨rfl, rfl⟩
        show pG 91 15 [some (.ref a0), some (.int p0), some (.int p1)] [.int v105] (mjTo Z) _
        refine pG_many 3 (pc1 := 18) (L1 := [some (.ref a0), some (.int p0), some (.int p1)]) (st1 := [.int p1, .int p0, .ref a0, .int v105]) (M1 := mjTo Z) (fun _ _ => rfl) ?_
        cases hq107 : f78_toOf a0 p0 p1 Z with
        | none => rw [hq107] at h; cases h
        | some v108 =>
          rw [hq107, mjBp_some] at h
          refine pG_callV (k2 := 77) (As := [.ref a0, .int p0, .int p1]) (rest := [.int v105]) rfl rfl rfl rfl rfl (mjRcv_is hk103 (by decide)) (by decide) (by decide) (f78_toOf_ok hq107) ?_
          rintro r9 M9 ⟨rfl, rfl⟩
          show pG 91 21 [some (.ref a0), some (.int p0), some (.int p1)] [.int v108, .int v105] (mjTo Z) _
          by_cases hc110 : mjCmp .ge v105 v108 = true
          · rw [if_pos hc110] at h
            refine pG_cmt (t := 28) rfl rfl hc110 ?_
            refine pG_many 1 (pc1 := 29) (L1 := [some (.ref a0), some (.int p0), some (.int p1)]) (st1 := [.int 0]) (M1 := mjTo Z) (fun _ _ => rfl) ?_
            simp only [Option.some.injEq] at h
            subst h
            exact pG_ret (r := some (.int 0)) rfl ⟨rfl, rfl⟩
          · rw [if_neg hc110] at h
            refine pG_cmf (t := 28) rfl rfl hc110 ?_
            refine pG_many 2 (pc1 := 29) (L1 := [some (.ref a0), some (.int p0), some (.int p1)]) (st1 := [.int 1]) (M1 := mjTo Z) (fun _ _ => rfl) ?_
            simp only [Option.some.injEq] at h
            subst h
            exact pG_ret (r := some (.int 1)) rfl ⟨rfl, rfl⟩
def f93_rulesStriking_h40 : Nat → Nat → Int32 → Int32 → Int32 → mjZt → Option (Int32 × mjZt)
  | 0, _, _, _, _, _ => none
  | n + 1, x1, x7, x8, x9, Z =>
    if mjIs x1 211 2 = true then
    if mjCmp .ge x9 (Z.1 x1 8) = true then
      some (x8, Z)
    else
      mjBp (f20_kindOfRule x1 x9 Z) fun v113 =>
      if mjCmp .ne v113 x7 = true then
        f93_rulesStriking_h40 n x1 x7 x8 (x9 + 1) Z
      else
        mjBd (f85_isSo (x1 + 1) x9 0 Z) fun v117 Z118 =>
        if mjCmp .eq v117 0 = true then
          f93_rulesStriking_h40 n x1 x7 x8 (x9 + 1) Z118
        else
          if mjIs (x1 + 1) 211 8 = true then
          mjBp (f92_isTold (x1 + 1) x9 1 Z118) fun v122 =>
          if mjCmp .eq v122 0 = true then
            f93_rulesStriking_h40 n x1 x7 (x8 ||| ((1 : Int32) <<< ((x9 : Int32) &&& 31))) (x9 + 1) Z118
          else
            mjBd (f85_isSo (x1 + 1) x9 1 Z118) fun v126 Z127 =>
            if mjCmp .ne v126 0 = true then
              f93_rulesStriking_h40 n x1 x7 x8 (x9 + 1) Z127
            else
              f93_rulesStriking_h40 n x1 x7 (x8 ||| ((1 : Int32) <<< ((x9 : Int32) &&& 31))) (x9 + 1) Z127
          else none
    else none
theorem f93_rulesStriking_h40_ok : ∀ (n : Nat) (x1 : Nat) (x7 : Int32) (x8 : Int32) (x9 : Int32) (d2 d3 d4 d5 d6 : Option Value) (Z : mjZt) (v9 : Int32) (Z9 : mjZt), f93_rulesStriking_h40 n x1 x7 x8 x9 Z = some (v9, Z9) → pG 92 40 [some (.ref 190), some (.ref x1), d2, d3, d4, d5, d6, some (.int x7), some (.int x8), some (.int x9)] [] (mjTo Z) (fun r M1 => r = some (.int v9) ∧ M1 = mjTo Z9)
  | 0, x1, x7, x8, x9, d2, d3, d4, d5, d6, Z, v9, Z9, h => by rw [f93_rulesStriking_h40] at h; cases h
  | n + 1, x1, x7, x8, x9, d2, d3, d4, d5, d6, Z, v9, Z9, h => by
      rw [f93_rulesStriking_h40] at h
      refine pG_many 2 (pc1 := 43) (L1 := [some (.ref 190), some (.ref x1), d2, d3, d4, d5, d6, some (.int x7), some (.int x8), some (.int x9)]) (st1 := [.ref x1, .int x9]) (M1 := mjTo Z) (fun _ _ => rfl) ?_
      have hk110 : mjIs x1 211 2 = true := by
        by_cases q9 : mjIs x1 211 2 = true
        · exact q9
        · rw [if_neg q9] at h; cases h
      rw [if_pos hk110] at h
      refine pG_getI (ci := 2) (f := 8) rfl rfl (Or.inl rfl) hk110 (by decide) ?_
      by_cases hc111 : mjCmp .ge x9 (Z.1 x1 8) = true
      · rw [if_pos hc111] at h
        refine pG_cmt (t := 116) rfl rfl hc111 ?_
        refine pG_many 1 (pc1 := 118) (L1 := [some (.ref 190), some (.ref x1), d2, d3, d4, d5, d6, some (.int x7), some (.int x8), some (.int x9)]) (st1 := [.int x8]) (M1 := mjTo Z) (fun _ _ => rfl) ?_
        simp only [Option.some.injEq, Prod.mk.injEq] at h
        obtain ⟨rfl, rfl⟩ := h
        exact pG_ret (r := some (.int x8)) rfl ⟨rfl, rfl⟩
      · rw [if_neg hc111] at h
        refine pG_cmf (t := 116) rfl rfl hc111 ?_
        refine pG_many 2 (pc1 := 52) (L1 := [some (.ref 190), some (.ref x1), d2, d3, d4, d5, d6, some (.int x7), some (.int x8), some (.int x9)]) (st1 := [.int x9, .ref x1]) (M1 := mjTo Z) (fun _ _ => rfl) ?_
        cases hq112 : f20_kindOfRule x1 x9 Z with
        | none => rw [hq112] at h; cases h
        | some v113 =>
          rw [hq112, mjBp_some] at h
          refine pG_callV (k2 := 20) (As := [.ref x1, .int x9]) (rest := []) rfl rfl rfl rfl rfl (mjRcv_is hk110 (by decide)) (by decide) (by decide) (f20_kindOfRule_ok hq112) ?_
          rintro r9 M9 ⟨rfl, rfl⟩
          show pG 92 55 [some (.ref 190), some (.ref x1), d2, d3, d4, d5, d6, some (.int x7), some (.int x8), some (.int x9)] [.int v113] (mjTo Z) _
          refine pG_many 1 (pc1 := 57) (L1 := [some (.ref 190), some (.ref x1), d2, d3, d4, d5, d6, some (.int x7), some (.int x8), some (.int x9)]) (st1 := [.int x7, .int v113]) (M1 := mjTo Z) (fun _ _ => rfl) ?_
          by_cases hc115 : mjCmp .ne v113 x7 = true
          · rw [if_pos hc115] at h
            refine pG_cmt (t := 110) rfl rfl hc115 ?_
            refine pG_many 2 (pc1 := 40) (L1 := [some (.ref 190), some (.ref x1), d2, d3, d4, d5, d6, some (.int x7), some (.int x8), some (.int (x9 + 1))]) (st1 := []) (M1 := mjTo Z) (fun _ _ => rfl) ?_
            exact f93_rulesStriking_h40_ok n x1 x7 x8 (x9 + 1) d2 d3 d4 d5 d6 Z v9 Z9 h
          · rw [if_neg hc115] at h
            refine pG_cmf (t := 110) rfl rfl hc115 ?_
            refine pG_many 2 (pc1 := 62) (L1 := [some (.ref 190), some (.ref x1), d2, d3, d4, d5, d6, some (.int x7), some (.int x8), some (.int x9)]) (st1 := [.ref x1, .ref 190]) (M1 := mjTo Z) (fun _ _ => rfl) ?_
            refine pG_getR (ci := 2) (f := 12) (b := x1 + 1) rfl rfl rfl hk110 (by decide) (mjRc2_12 hk110) ?_
            refine pG_many 2 (pc1 := 68) (L1 := [some (.ref 190), some (.ref x1), d2, d3, d4, d5, d6, some (.int x7), some (.int x8), some (.int x9)]) (st1 := [.int 0, .int x9, .ref (x1 + 1), .ref 190]) (M1 := mjTo Z) (fun _ _ => rfl) ?_
            cases hq116 : f85_isSo (x1 + 1) x9 0 Z with
            | none => rw [hq116] at h; cases h
            | some w =>
              obtain ⟨v117, Z118⟩ := w
              rw [hq116, mjBd_some] at h
              refine pG_callV (k2 := 84) (As := [.ref 190, .ref (x1 + 1), .int x9, .int 0]) (rest := []) rfl rfl rfl rfl rfl (by rfl) (by decide) (by decide) (f85_isSo_ok hq116) ?_
              rintro r9 M9 ⟨rfl, rfl⟩
              show pG 92 71 [some (.ref 190), some (.ref x1), d2, d3, d4, d5, d6, some (.int x7), some (.int x8), some (.int x9)] [.int v117] (mjTo Z118) _
              by_cases hc119 : mjCmp .eq v117 0 = true
              · rw [if_pos hc119] at h
                refine pG_ift (t := 110) rfl rfl hc119 ?_
                refine pG_many 2 (pc1 := 40) (L1 := [some (.ref 190), some (.ref x1), d2, d3, d4, d5, d6, some (.int x7), some (.int x8), some (.int (x9 + 1))]) (st1 := []) (M1 := mjTo Z118) (fun _ _ => rfl) ?_
                exact f93_rulesStriking_h40_ok n x1 x7 x8 (x9 + 1) d2 d3 d4 d5 d6 Z118 v9 Z9 h
              · rw [if_neg hc119] at h
                refine pG_iff (t := 110) rfl rfl hc119 ?_
                refine pG_many 1 (pc1 := 75) (L1 := [some (.ref 190), some (.ref x1), d2, d3, d4, d5, d6, some (.int x7), some (.int x8), some (.int x9)]) (st1 := [.ref x1]) (M1 := mjTo Z118) (fun _ _ => rfl) ?_
                refine pG_getR (ci := 2) (f := 12) (b := x1 + 1) rfl rfl rfl hk110 (by decide) (mjRc2_12 hk110) ?_
                refine pG_many 2 (pc1 := 81) (L1 := [some (.ref 190), some (.ref x1), d2, d3, d4, d5, d6, some (.int x7), some (.int x8), some (.int x9)]) (st1 := [.int 1, .int x9, .ref (x1 + 1)]) (M1 := mjTo Z118) (fun _ _ => rfl) ?_
                have hk120 : mjIs (x1 + 1) 211 8 = true := by
                  by_cases q9 : mjIs (x1 + 1) 211 8 = true
                  · exact q9
                  · rw [if_neg q9] at h; cases h
                rw [if_pos hk120] at h
                cases hq121 : f92_isTold (x1 + 1) x9 1 Z118 with
                | none => rw [hq121] at h; cases h
                | some v122 =>
                  rw [hq121, mjBp_some] at h
                  refine pG_callV (k2 := 91) (As := [.ref (x1 + 1), .int x9, .int 1]) (rest := []) rfl rfl rfl rfl rfl (mjRcv_is hk120 (by decide)) (by decide) (by decide) (f92_isTold_ok hq121) ?_
                  rintro r9 M9 ⟨rfl, rfl⟩
                  show pG 92 84 [some (.ref 190), some (.ref x1), d2, d3, d4, d5, d6, some (.int x7), some (.int x8), some (.int x9)] [.int v122] (mjTo Z118) _
                  by_cases hc124 : mjCmp .eq v122 0 = true
                  · rw [if_pos hc124] at h
                    refine pG_ift (t := 101) rfl rfl hc124 ?_
                    refine pG_many 8 (pc1 := 40) (L1 := [some (.ref 190), some (.ref x1), d2, d3, d4, d5, d6, some (.int x7), some (.int (x8 ||| ((1 : Int32) <<< ((x9 : Int32) &&& 31)))), some (.int (x9 + 1))]) (st1 := []) (M1 := mjTo Z118) (fun _ _ => rfl) ?_
                    exact f93_rulesStriking_h40_ok n x1 x7 (x8 ||| ((1 : Int32) <<< ((x9 : Int32) &&& 31))) (x9 + 1) d2 d3 d4 d5 d6 Z118 v9 Z9 h
                  · rw [if_neg hc124] at h
                    refine pG_iff (t := 101) rfl rfl hc124 ?_
                    refine pG_many 2 (pc1 := 89) (L1 := [some (.ref 190), some (.ref x1), d2, d3, d4, d5, d6, some (.int x7), some (.int x8), some (.int x9)]) (st1 := [.ref x1, .ref 190]) (M1 := mjTo Z118) (fun _ _ => rfl) ?_
                    refine pG_getR (ci := 2) (f := 12) (b := x1 + 1) rfl rfl rfl hk110 (by decide) (mjRc2_12 hk110) ?_
                    refine pG_many 2 (pc1 := 95) (L1 := [some (.ref 190), some (.ref x1), d2, d3, d4, d5, d6, some (.int x7), some (.int x8), some (.int x9)]) (st1 := [.int 1, .int x9, .ref (x1 + 1), .ref 190]) (M1 := mjTo Z118) (fun _ _ => rfl) ?_
                    cases hq125 : f85_isSo (x1 + 1) x9 1 Z118 with
                    | none => rw [hq125] at h; cases h
                    | some w =>
                      obtain ⟨v126, Z127⟩ := w
                      rw [hq125, mjBd_some] at h
                      refine pG_callV (k2 := 84) (As := [.ref 190, .ref (x1 + 1), .int x9, .int 1]) (rest := []) rfl rfl rfl rfl rfl (by rfl) (by decide) (by decide) (f85_isSo_ok hq125) ?_
                      rintro r9 M9 ⟨rfl, rfl⟩
                      show pG 92 98 [some (.ref 190), some (.ref x1), d2, d3, d4, d5, d6, some (.int x7), some (.int x8), some (.int x9)] [.int v126] (mjTo Z127) _
                      by_cases hc128 : mjCmp .ne v126 0 = true
                      · rw [if_pos hc128] at h
                        refine pG_ift (t := 110) rfl rfl hc128 ?_
                        refine pG_many 2 (pc1 := 40) (L1 := [some (.ref 190), some (.ref x1), d2, d3, d4, d5, d6, some (.int x7), some (.int x8), some (.int (x9 + 1))]) (st1 := []) (M1 := mjTo Z127) (fun _ _ => rfl) ?_
                        exact f93_rulesStriking_h40_ok n x1 x7 x8 (x9 + 1) d2 d3 d4 d5 d6 Z127 v9 Z9 h
                      · rw [if_neg hc128] at h
                        refine pG_iff (t := 110) rfl rfl hc128 ?_
                        refine pG_many 8 (pc1 := 40) (L1 := [some (.ref 190), some (.ref x1), d2, d3, d4, d5, d6, some (.int x7), some (.int (x8 ||| ((1 : Int32) <<< ((x9 : Int32) &&& 31)))), some (.int (x9 + 1))]) (st1 := []) (M1 := mjTo Z127) (fun _ _ => rfl) ?_
                        exact f93_rulesStriking_h40_ok n x1 x7 (x8 ||| ((1 : Int32) <<< ((x9 : Int32) &&& 31))) (x9 + 1) d2 d3 d4 d5 d6 Z127 v9 Z9 h
def f93_rulesStriking (p0 : Nat) (p1 : Int32) (p2 : Int32) (p3 : Int32) (p4 : Int64) (Z : mjZt) : Option (Int32 × mjZt) :=
  if mjCmp .ne (lg_cmp ((p4 >>> (Int32.toInt64 p1 &&& 63)) &&& 1) 1) 0 = true then
    mjBd (f74_look p0 p1 p2 p3 p4 Z) fun _ Z104 =>
    if mjIs p0 211 2 = true then
    mjBp (f6_deed p0 p1 Z104) fun v107 =>
    if mjIs v107 211 0 = true then
    f93_rulesStriking_h40 mjF p0 (Z104.1 v107 0) 0 0 Z104
    else none
    else none
  else
    some (0, Z)
theorem f93_rulesStriking_ok {p0 : Nat} {p1 : Int32} {p2 : Int32} {p3 : Int32} {p4 : Int64} {Z : mjZt} {v9 : Int32} {Z9 : mjZt} (h : f93_rulesStriking p0 p1 p2 p3 p4 Z = some (v9, Z9)) : pG 92 0 (mjEnt [.ref 190, .ref p0, .int p1, .int p2, .int p3, .long p4] (mjML 92)) [] (mjTo Z) (fun r M1 => r = some (.int v9) ∧ M1 = mjTo Z9) := by
  unfold f93_rulesStriking at h
  show pG 92 0 [some (.ref 190), some (.ref p0), some (.int p1), some (.int p2), some (.int p3), some (.long p4), none, none, none, none] [] (mjTo Z) _
  refine pG_many 7 (pc1 := 8) (L1 := [some (.ref 190), some (.ref p0), some (.int p1), some (.int p2), some (.int p3), some (.long p4), none, none, none, none]) (st1 := [.int (lg_cmp ((p4 >>> (Int32.toInt64 p1 &&& 63)) &&& 1) 1)]) (M1 := mjTo Z) (fun _ _ => rfl) ?_
  by_cases hc101 : mjCmp .ne (lg_cmp ((p4 >>> (Int32.toInt64 p1 &&& 63)) &&& 1) 1) 0 = true
  · rw [if_pos hc101] at h
    refine pG_ift (t := 13) rfl rfl hc101 ?_
    refine pG_many 6 (pc1 := 21) (L1 := [some (.ref 190), some (.ref p0), some (.int p1), some (.int p2), some (.int p3), some (.long p4), none, none, none, none]) (st1 := [.long p4, .int p3, .int p2, .int p1, .ref p0, .ref 190]) (M1 := mjTo Z) (fun _ _ => rfl) ?_
    cases hq102 : f74_look p0 p1 p2 p3 p4 Z with
    | none => rw [hq102] at h; cases h
    | some w =>
      obtain ⟨v103, Z104⟩ := w
      rw [hq102, mjBd_some] at h
      refine pG_callV (k2 := 73) (As := [.ref 190, .ref p0, .int p1, .int p2, .int p3, .long p4]) (rest := []) rfl rfl rfl rfl rfl (by rfl) (by decide) (by decide) (f74_look_ok hq102) ?_
      rintro r9 M9 ⟨rfl, rfl⟩
      show pG 92 24 [some (.ref 190), some (.ref p0), some (.int p1), some (.int p2), some (.int p3), some (.long p4), none, none, none, none] [] (mjTo Z104) _
      refine pG_many 2 (pc1 := 26) (L1 := [some (.ref 190), some (.ref p0), some (.int p1), some (.int p2), some (.int p3), some (.long p4), none, none, none, none]) (st1 := [.int p1, .ref p0]) (M1 := mjTo Z104) (fun _ _ => rfl) ?_
      have hk105 : mjIs p0 211 2 = true := by
        by_cases q9 : mjIs p0 211 2 = true
        · exact q9
        · rw [if_neg q9] at h; cases h
      rw [if_pos hk105] at h
      cases hq106 : f6_deed p0 p1 Z104 with
      | none => rw [hq106] at h; cases h
      | some v107 =>
        rw [hq106, mjBp_some] at h
        refine pG_callV (k2 := 6) (As := [.ref p0, .int p1]) (rest := []) rfl rfl rfl rfl rfl (mjRcv_is hk105 (by decide)) (by decide) (by decide) (f6_deed_ok hq106) ?_
        rintro r9 M9 ⟨rfl, rfl⟩
        show pG 92 29 [some (.ref 190), some (.ref p0), some (.int p1), some (.int p2), some (.int p3), some (.long p4), none, none, none, none] [.ref v107] (mjTo Z104) _
        have hk109 : mjIs v107 211 0 = true := by
          by_cases q9 : mjIs v107 211 0 = true
          · exact q9
          · rw [if_neg q9] at h; cases h
        rw [if_pos hk109] at h
        refine pG_getI (ci := 0) (f := 0) rfl rfl (Or.inl rfl) hk109 (by decide) ?_
        refine pG_many 5 (pc1 := 40) (L1 := [some (.ref 190), some (.ref p0), some (.int p1), some (.int p2), some (.int p3), some (.long p4), none, some (.int (Z104.1 v107 0)), some (.int 0), some (.int 0)]) (st1 := []) (M1 := mjTo Z104) (fun _ _ => rfl) ?_
        exact f93_rulesStriking_h40_ok mjF p0 (Z104.1 v107 0) 0 0 (some (.int p1)) (some (.int p2)) (some (.int p3)) (some (.long p4)) none Z104 v9 Z9 h
  · rw [if_neg hc101] at h
    refine pG_iff (t := 13) rfl rfl hc101 ?_
    refine pG_many 1 (pc1 := 12) (L1 := [some (.ref 190), some (.ref p0), some (.int p1), some (.int p2), some (.int p3), some (.long p4), none, none, none, none]) (st1 := [.int 0]) (M1 := mjTo Z) (fun _ _ => rfl) ?_
    simp only [Option.some.injEq, Prod.mk.injEq] at h
    obtain ⟨rfl, rfl⟩ := h
    exact pG_ret (r := some (.int 0)) rfl ⟨rfl, rfl⟩
def f95_isUnstruck_j224 (R : Nat → Int32 → Int64 → Int32 → mjZt → Option (Int32 × mjZt)) (x1 : Nat) (x2 : Int32) (x3 : Int64) (x5 : Int32) (x10 : Int32) (x12 : Int64) (Z : mjZt) : Option (Int32 × mjZt) :=
  if mjIn x10 168 = true then
  if mjCmp .eq (lg_cmp ((Z.2.1 198 (mjIx x10)) &&& x12) 0) 0 = true then
    R x1 x2 x3 (x5 + 1) Z
  else
    some (0, Z)
  else none
theorem f95_isUnstruck_j224_ok (R : Nat → Int32 → Int64 → Int32 → mjZt → Option (Int32 × mjZt)) (hR : ∀ (x1 : Nat) (x2 : Int32) (x3 : Int64) (x5 : Int32) (d4 d6 d7 d8 d9 d10 d11 d12 d13 d14 : Option Value) (Z : mjZt) (v9 : Int32) (Z9 : mjZt), R x1 x2 x3 x5 Z = some (v9, Z9) → pG 93 3 [some (.ref 190), some (.ref x1), some (.int x2), some (.long x3), d4, some (.int x5), d6, d7, d8, d9, d10, d11, d12, d13, d14] [] (mjTo Z) (fun r M1 => r = some (.int v9) ∧ M1 = mjTo Z9)) (x1 : Nat) (x2 : Int32) (x3 : Int64) (x5 : Int32) (x10 : Int32) (x12 : Int64) (d4 d6 d7 d8 d9 d11 d13 d14 : Option Value) (Z : mjZt) (v9 : Int32) (Z9 : mjZt) (h : f95_isUnstruck_j224 R x1 x2 x3 x5 x10 x12 Z = some (v9, Z9)) : pG 93 224 [some (.ref 190), some (.ref x1), some (.int x2), some (.long x3), d4, some (.int x5), d6, d7, d8, d9, some (.int x10), d11, some (.long x12), d13, d14] [] (mjTo Z) (fun r M1 => r = some (.int v9) ∧ M1 = mjTo Z9) := by
  unfold f95_isUnstruck_j224 at h
  refine pG_many 1 (pc1 := 225) (L1 := [some (.ref 190), some (.ref x1), some (.int x2), some (.long x3), d4, some (.int x5), d6, d7, d8, d9, some (.int x10), d11, some (.long x12), d13, d14]) (st1 := [.ref 190]) (M1 := mjTo Z) (fun _ _ => rfl) ?_
  refine pG_getR (ci := 4) (f := 7) (b := 198) rfl rfl rfl (by rfl) (by decide) rfl ?_
  refine pG_many 1 (pc1 := 230) (L1 := [some (.ref 190), some (.ref x1), some (.int x2), some (.long x3), d4, some (.int x5), d6, d7, d8, d9, some (.int x10), d11, some (.long x12), d13, d14]) (st1 := [.int x10, .ref 198]) (M1 := mjTo Z) (fun _ _ => rfl) ?_
  have hk127 : mjIn x10 168 = true := by
    by_cases q9 : mjIn x10 168 = true
    · exact q9
    · rw [if_neg q9] at h; cases h
  rw [if_pos hk127] at h
  refine pG_lal rfl (by rfl) hk127 ?_
  refine pG_many 4 (pc1 := 236) (L1 := [some (.ref 190), some (.ref x1), some (.int x2), some (.long x3), d4, some (.int x5), d6, d7, d8, d9, some (.int x10), d11, some (.long x12), d13, d14]) (st1 := [.int (lg_cmp ((Z.2.1 198 (mjIx x10)) &&& x12) 0)]) (M1 := mjTo Z) (fun _ _ => rfl) ?_
  by_cases hc128 : mjCmp .eq (lg_cmp ((Z.2.1 198 (mjIx x10)) &&& x12) 0) 0 = true
  · rw [if_pos hc128] at h
    refine pG_ift (t := 241) rfl rfl hc128 ?_
    refine pG_many 2 (pc1 := 3) (L1 := [some (.ref 190), some (.ref x1), some (.int x2), some (.long x3), (mjK1 d4), some (.int (x5 + 1)), d6, d7, d8, d9, some (.int x10), d11, some (.long x12), d13, d14]) (st1 := []) (M1 := mjTo Z) (fun _ _ => rfl) ?_
    exact hR x1 x2 x3 (x5 + 1) ((mjK1 d4)) d6 d7 d8 d9 (some (.int x10)) d11 (some (.long x12)) d13 d14 Z v9 Z9 h
  · rw [if_neg hc128] at h
    refine pG_iff (t := 241) rfl rfl hc128 ?_
    refine pG_many 1 (pc1 := 240) (L1 := [some (.ref 190), some (.ref x1), some (.int x2), some (.long x3), d4, some (.int x5), d6, d7, d8, d9, some (.int x10), d11, some (.long x12), d13, d14]) (st1 := [.int 0]) (M1 := mjTo Z) (fun _ _ => rfl) ?_
    simp only [Option.some.injEq, Prod.mk.injEq] at h
    obtain ⟨rfl, rfl⟩ := h
    exact pG_ret (r := some (.int 0)) rfl ⟨rfl, rfl⟩
def f95_isUnstruck_j222 (R : Nat → Int32 → Int64 → Int32 → mjZt → Option (Int32 × mjZt)) (x1 : Nat) (x2 : Int32) (x3 : Int64) (x5 : Int32) (x10 : Int32) (x12 : Int64) (s1 : Int32) (s2 : Int64) (s3 : Int64) (Z : mjZt) : Option (Int32 × mjZt) :=
  if mjIn s1 168 = true then
  mjLet (zSl Z 198 (mjIx s1) (s2 ||| s3)) fun Z138 =>
  f95_isUnstruck_j224 R x1 x2 x3 x5 x10 x12 Z138
  else none
theorem f95_isUnstruck_j222_ok (R : Nat → Int32 → Int64 → Int32 → mjZt → Option (Int32 × mjZt)) (hR : ∀ (x1 : Nat) (x2 : Int32) (x3 : Int64) (x5 : Int32) (d4 d6 d7 d8 d9 d10 d11 d12 d13 d14 : Option Value) (Z : mjZt) (v9 : Int32) (Z9 : mjZt), R x1 x2 x3 x5 Z = some (v9, Z9) → pG 93 3 [some (.ref 190), some (.ref x1), some (.int x2), some (.long x3), d4, some (.int x5), d6, d7, d8, d9, d10, d11, d12, d13, d14] [] (mjTo Z) (fun r M1 => r = some (.int v9) ∧ M1 = mjTo Z9)) (x1 : Nat) (x2 : Int32) (x3 : Int64) (x5 : Int32) (x10 : Int32) (x12 : Int64) (s1 : Int32) (s2 : Int64) (s3 : Int64) (d4 d6 d7 d8 d9 d11 d13 d14 : Option Value) (Z : mjZt) (v9 : Int32) (Z9 : mjZt) (h : f95_isUnstruck_j222 R x1 x2 x3 x5 x10 x12 s1 s2 s3 Z = some (v9, Z9)) : pG 93 222 [some (.ref 190), some (.ref x1), some (.int x2), some (.long x3), d4, some (.int x5), d6, d7, d8, d9, some (.int x10), d11, some (.long x12), d13, d14] [.long s3, .long s2, .int s1, .ref 198] (mjTo Z) (fun r M1 => r = some (.int v9) ∧ M1 = mjTo Z9) := by
  unfold f95_isUnstruck_j222 at h
  refine pG_many 1 (pc1 := 223) (L1 := [some (.ref 190), some (.ref x1), some (.int x2), some (.long x3), d4, some (.int x5), d6, d7, d8, d9, some (.int x10), d11, some (.long x12), d13, d14]) (st1 := [.long (s2 ||| s3), .int s1, .ref 198]) (M1 := mjTo Z) (fun _ _ => rfl) ?_
  have hk137 : mjIn s1 168 = true := by
    by_cases q9 : mjIn s1 168 = true
    · exact q9
    · rw [if_neg q9] at h; cases h
  rw [if_pos hk137] at h
  refine pG_las rfl (by rfl) hk137 (?_ : pG 93 224 [some (.ref 190), some (.ref x1), some (.int x2), some (.long x3), d4, some (.int x5), d6, d7, d8, d9, some (.int x10), d11, some (.long x12), d13, d14] [] (mjTo (zSl Z 198 (mjIx s1) (s2 ||| s3))) _)
  rw [mjLet] at h
  generalize zSl Z 198 (mjIx s1) (s2 ||| s3) = Z138 at h ⊢
  exact f95_isUnstruck_j224_ok R hR x1 x2 x3 x5 x10 x12 d4 d6 d7 d8 d9 d11 d13 d14 Z138 v9 Z9 h
def f95_isUnstruck_j201 (R : Nat → Int32 → Int64 → Int32 → mjZt → Option (Int32 × mjZt)) (x1 : Nat) (x2 : Int32) (x3 : Int64) (x5 : Int32) (x10 : Int32) (x12 : Int64) (s0 : Int32) (Z : mjZt) : Option (Int32 × mjZt) :=
  if mjIn x10 168 = true then
  if mjCmp .eq s0 0 = true then
    f95_isUnstruck_j222 R x1 x2 x3 x5 x10 x12 x10 (Z.2.1 198 (mjIx x10)) 0 Z
  else
    f95_isUnstruck_j222 R x1 x2 x3 x5 x10 x12 x10 (Z.2.1 198 (mjIx x10)) x12 Z
  else none
theorem f95_isUnstruck_j201_ok (R : Nat → Int32 → Int64 → Int32 → mjZt → Option (Int32 × mjZt)) (hR : ∀ (x1 : Nat) (x2 : Int32) (x3 : Int64) (x5 : Int32) (d4 d6 d7 d8 d9 d10 d11 d12 d13 d14 : Option Value) (Z : mjZt) (v9 : Int32) (Z9 : mjZt), R x1 x2 x3 x5 Z = some (v9, Z9) → pG 93 3 [some (.ref 190), some (.ref x1), some (.int x2), some (.long x3), d4, some (.int x5), d6, d7, d8, d9, d10, d11, d12, d13, d14] [] (mjTo Z) (fun r M1 => r = some (.int v9) ∧ M1 = mjTo Z9)) (x1 : Nat) (x2 : Int32) (x3 : Int64) (x5 : Int32) (x10 : Int32) (x12 : Int64) (s0 : Int32) (d4 d6 d7 d8 d9 d11 d13 d14 : Option Value) (Z : mjZt) (v9 : Int32) (Z9 : mjZt) (h : f95_isUnstruck_j201 R x1 x2 x3 x5 x10 x12 s0 Z = some (v9, Z9)) : pG 93 201 [some (.ref 190), some (.ref x1), some (.int x2), some (.long x3), d4, some (.int x5), d6, d7, d8, d9, some (.int x10), d11, some (.long x12), d13, d14] [.int s0] (mjTo Z) (fun r M1 => r = some (.int v9) ∧ M1 = mjTo Z9) := by
  unfold f95_isUnstruck_j201 at h
  refine pG_many 2 (pc1 := 204) (L1 := [some (.ref 190), some (.ref x1), some (.int x2), some (.long x3), d4, some (.int x5), d6, d7, d8, d9, some (.int x10), d11, some (.long x12), (mjK1 d13), some (.int s0)]) (st1 := [.ref 190]) (M1 := mjTo Z) (fun _ _ => rfl) ?_
  refine pG_getR (ci := 4) (f := 7) (b := 198) rfl rfl rfl (by rfl) (by decide) rfl ?_
  refine pG_many 2 (pc1 := 210) (L1 := [some (.ref 190), some (.ref x1), some (.int x2), some (.long x3), d4, some (.int x5), d6, d7, d8, d9, some (.int x10), d11, some (.long x12), (mjK1 d13), some (.int s0)]) (st1 := [.int x10, .ref 198, .int x10, .ref 198]) (M1 := mjTo Z) (fun _ _ => rfl) ?_
  have hk135 : mjIn x10 168 = true := by
    by_cases q9 : mjIn x10 168 = true
    · exact q9
    · rw [if_neg q9] at h; cases h
  rw [if_pos hk135] at h
  refine pG_lal rfl (by rfl) hk135 ?_
  refine pG_many 1 (pc1 := 213) (L1 := [some (.ref 190), some (.ref x1), some (.int x2), some (.long x3), d4, some (.int x5), d6, d7, d8, d9, some (.int x10), d11, some (.long x12), (mjK1 d13), some (.int s0)]) (st1 := [.int s0, .long (Z.2.1 198 (mjIx x10)), .int x10, .ref 198]) (M1 := mjTo Z) (fun _ _ => rfl) ?_
  by_cases hc136 : mjCmp .eq s0 0 = true
  · rw [if_pos hc136] at h
    refine pG_ift (t := 221) rfl rfl hc136 ?_
    refine pG_many 1 (pc1 := 222) (L1 := [some (.ref 190), some (.ref x1), some (.int x2), some (.long x3), d4, some (.int x5), d6, d7, d8, d9, some (.int x10), d11, some (.long x12), (mjK1 d13), some (.int s0)]) (st1 := [.long 0, .long (Z.2.1 198 (mjIx x10)), .int x10, .ref 198]) (M1 := mjTo Z) (fun _ _ => rfl) ?_
    exact f95_isUnstruck_j222_ok R hR x1 x2 x3 x5 x10 x12 x10 (Z.2.1 198 (mjIx x10)) 0 d4 d6 d7 d8 d9 d11 ((mjK1 d13)) (some (.int s0)) Z v9 Z9 h
  · rw [if_neg hc136] at h
    refine pG_iff (t := 221) rfl rfl hc136 ?_
    refine pG_many 2 (pc1 := 222) (L1 := [some (.ref 190), some (.ref x1), some (.int x2), some (.long x3), d4, some (.int x5), d6, d7, d8, d9, some (.int x10), d11, some (.long x12), (mjK1 d13), some (.int s0)]) (st1 := [.long x12, .long (Z.2.1 198 (mjIx x10)), .int x10, .ref 198]) (M1 := mjTo Z) (fun _ _ => rfl) ?_
    exact f95_isUnstruck_j222_ok R hR x1 x2 x3 x5 x10 x12 x10 (Z.2.1 198 (mjIx x10)) x12 d4 d6 d7 d8 d9 d11 ((mjK1 d13)) (some (.int s0)) Z v9 Z9 h
def f95_isUnstruck_j107 (R : Nat → Int32 → Int64 → Int32 → mjZt → Option (Int32 × mjZt)) (x1 : Nat) (x2 : Int32) (x3 : Int64) (x5 : Int32) (x6 : Nat) (x9 : Int32) (x10 : Int32) (s0 : Int32) (Z : mjZt) : Option (Int32 × mjZt) :=
  if mjCmp .eq s0 0 = true then
    R x1 x2 x3 (x5 + 1) Z
  else
    if mjCmp .lt x10 0 = true then
      R x1 x2 x3 (x5 + 1) Z
    else
      if mjCmp .ge x10 168 = true then
        R x1 x2 x3 (x5 + 1) Z
      else
        if mjCmp .ge x10 168 = true then
          R x1 x2 x3 (x5 + 1) Z
        else
          if mjIn x10 168 = true then
          if mjCmp .ne (lg_cmp ((Z.2.1 197 (mjIx x10)) &&& (1 <<< (Int32.toInt64 (x9 &&& 63) &&& 63))) 0) 0 = true then
            f95_isUnstruck_j224 R x1 x2 x3 x5 x10 (1 <<< (Int32.toInt64 (x9 &&& 63) &&& 63)) Z
          else
            mjLet (zSl Z 197 (mjIx x10) ((Z.2.1 197 (mjIx x10)) ||| (1 <<< (Int32.toInt64 (x9 &&& 63) &&& 63)))) fun Z129 =>
            if mjIs x6 211 0 = true then
            mjBd (f93_rulesStriking x1 x5 (Z129.1 x6 3) (Z129.1 x6 4) x3 Z129) fun v132 Z133 =>
            if mjCmp .eq v132 0 = true then
              f95_isUnstruck_j201 R x1 x2 x3 x5 x10 (1 <<< (Int32.toInt64 (x9 &&& 63) &&& 63)) 0 Z133
            else
              f95_isUnstruck_j201 R x1 x2 x3 x5 x10 (1 <<< (Int32.toInt64 (x9 &&& 63) &&& 63)) 1 Z133
            else none
          else none
theorem f95_isUnstruck_j107_ok (R : Nat → Int32 → Int64 → Int32 → mjZt → Option (Int32 × mjZt)) (hR : ∀ (x1 : Nat) (x2 : Int32) (x3 : Int64) (x5 : Int32) (d4 d6 d7 d8 d9 d10 d11 d12 d13 d14 : Option Value) (Z : mjZt) (v9 : Int32) (Z9 : mjZt), R x1 x2 x3 x5 Z = some (v9, Z9) → pG 93 3 [some (.ref 190), some (.ref x1), some (.int x2), some (.long x3), d4, some (.int x5), d6, d7, d8, d9, d10, d11, d12, d13, d14] [] (mjTo Z) (fun r M1 => r = some (.int v9) ∧ M1 = mjTo Z9)) (x1 : Nat) (x2 : Int32) (x3 : Int64) (x5 : Int32) (x6 : Nat) (x9 : Int32) (x10 : Int32) (s0 : Int32) (d4 d7 d8 d11 d12 d13 d14 : Option Value) (Z : mjZt) (v9 : Int32) (Z9 : mjZt) (h : f95_isUnstruck_j107 R x1 x2 x3 x5 x6 x9 x10 s0 Z = some (v9, Z9)) : pG 93 107 [some (.ref 190), some (.ref x1), some (.int x2), some (.long x3), d4, some (.int x5), some (.ref x6), d7, d8, some (.int x9), some (.int x10), d11, d12, d13, d14] [.int s0] (mjTo Z) (fun r M1 => r = some (.int v9) ∧ M1 = mjTo Z9) := by
  unfold f95_isUnstruck_j107 at h
  refine pG_many 2 (pc1 := 111) (L1 := [some (.ref 190), some (.ref x1), some (.int x2), some (.long x3), d4, some (.int x5), some (.ref x6), d7, d8, some (.int x9), some (.int x10), some (.int s0), d12, d13, d14]) (st1 := [.int s0]) (M1 := mjTo Z) (fun _ _ => rfl) ?_
  by_cases hc121 : mjCmp .eq s0 0 = true
  · rw [if_pos hc121] at h
    refine pG_ift (t := 241) rfl rfl hc121 ?_
    refine pG_many 2 (pc1 := 3) (L1 := [some (.ref 190), some (.ref x1), some (.int x2), some (.long x3), (mjK1 d4), some (.int (x5 + 1)), some (.ref x6), d7, d8, some (.int x9), some (.int x10), some (.int s0), d12, d13, d14]) (st1 := []) (M1 := mjTo Z) (fun _ _ => rfl) ?_
    exact hR x1 x2 x3 (x5 + 1) ((mjK1 d4)) (some (.ref x6)) d7 d8 (some (.int x9)) (some (.int x10)) (some (.int s0)) d12 d13 d14 Z v9 Z9 h
  · rw [if_neg hc121] at h
    refine pG_iff (t := 241) rfl rfl hc121 ?_
    refine pG_many 1 (pc1 := 116) (L1 := [some (.ref 190), some (.ref x1), some (.int x2), some (.long x3), d4, some (.int x5), some (.ref x6), d7, d8, some (.int x9), some (.int x10), some (.int s0), d12, d13, d14]) (st1 := [.int x10]) (M1 := mjTo Z) (fun _ _ => rfl) ?_
    by_cases hc122 : mjCmp .lt x10 0 = true
    · rw [if_pos hc122] at h
      refine pG_ift (t := 241) rfl rfl hc122 ?_
      refine pG_many 2 (pc1 := 3) (L1 := [some (.ref 190), some (.ref x1), some (.int x2), some (.long x3), (mjK1 d4), some (.int (x5 + 1)), some (.ref x6), d7, d8, some (.int x9), some (.int x10), some (.int s0), d12, d13, d14]) (st1 := []) (M1 := mjTo Z) (fun _ _ => rfl) ?_
      exact hR x1 x2 x3 (x5 + 1) ((mjK1 d4)) (some (.ref x6)) d7 d8 (some (.int x9)) (some (.int x10)) (some (.int s0)) d12 d13 d14 Z v9 Z9 h
    · rw [if_neg hc122] at h
      refine pG_iff (t := 241) rfl rfl hc122 ?_
      refine pG_many 2 (pc1 := 122) (L1 := [some (.ref 190), some (.ref x1), some (.int x2), some (.long x3), d4, some (.int x5), some (.ref x6), d7, d8, some (.int x9), some (.int x10), some (.int s0), d12, d13, d14]) (st1 := [.ref 190, .int x10]) (M1 := mjTo Z) (fun _ _ => rfl) ?_
      refine pG_getR (ci := 4) (f := 6) (b := 197) rfl rfl rfl (by rfl) (by decide) rfl ?_
      refine pG_len rfl (by decide) (by decide) (by decide) ?_
      by_cases hc123 : mjCmp .ge x10 168 = true
      · rw [if_pos hc123] at h
        refine pG_cmt (t := 241) rfl rfl hc123 ?_
        refine pG_many 2 (pc1 := 3) (L1 := [some (.ref 190), some (.ref x1), some (.int x2), some (.long x3), (mjK1 d4), some (.int (x5 + 1)), some (.ref x6), d7, d8, some (.int x9), some (.int x10), some (.int s0), d12, d13, d14]) (st1 := []) (M1 := mjTo Z) (fun _ _ => rfl) ?_
        exact hR x1 x2 x3 (x5 + 1) ((mjK1 d4)) (some (.ref x6)) d7 d8 (some (.int x9)) (some (.int x10)) (some (.int s0)) d12 d13 d14 Z v9 Z9 h
      · rw [if_neg hc123] at h
        refine pG_cmf (t := 241) rfl rfl hc123 ?_
        refine pG_many 2 (pc1 := 132) (L1 := [some (.ref 190), some (.ref x1), some (.int x2), some (.long x3), d4, some (.int x5), some (.ref x6), d7, d8, some (.int x9), some (.int x10), some (.int s0), d12, d13, d14]) (st1 := [.ref 190, .int x10]) (M1 := mjTo Z) (fun _ _ => rfl) ?_
        refine pG_getR (ci := 4) (f := 7) (b := 198) rfl rfl rfl (by rfl) (by decide) rfl ?_
        refine pG_len rfl (by decide) (by decide) (by decide) ?_
        by_cases hc124 : mjCmp .ge x10 168 = true
        · rw [if_pos hc124] at h
          refine pG_cmt (t := 241) rfl rfl hc124 ?_
          refine pG_many 2 (pc1 := 3) (L1 := [some (.ref 190), some (.ref x1), some (.int x2), some (.long x3), (mjK1 d4), some (.int (x5 + 1)), some (.ref x6), d7, d8, some (.int x9), some (.int x10), some (.int s0), d12, d13, d14]) (st1 := []) (M1 := mjTo Z) (fun _ _ => rfl) ?_
          exact hR x1 x2 x3 (x5 + 1) ((mjK1 d4)) (some (.ref x6)) d7 d8 (some (.int x9)) (some (.int x10)) (some (.int s0)) d12 d13 d14 Z v9 Z9 h
        · rw [if_neg hc124] at h
          refine pG_cmf (t := 241) rfl rfl hc124 ?_
          refine pG_many 7 (pc1 := 149) (L1 := [some (.ref 190), some (.ref x1), some (.int x2), some (.long x3), d4, some (.int x5), some (.ref x6), d7, d8, some (.int x9), some (.int x10), some (.int s0), some (.long (1 <<< (Int32.toInt64 (x9 &&& 63) &&& 63))), none, d14]) (st1 := [.ref 190]) (M1 := mjTo Z) (fun _ _ => rfl) ?_
          refine pG_getR (ci := 4) (f := 6) (b := 197) rfl rfl rfl (by rfl) (by decide) rfl ?_
          refine pG_many 1 (pc1 := 154) (L1 := [some (.ref 190), some (.ref x1), some (.int x2), some (.long x3), d4, some (.int x5), some (.ref x6), d7, d8, some (.int x9), some (.int x10), some (.int s0), some (.long (1 <<< (Int32.toInt64 (x9 &&& 63) &&& 63))), none, d14]) (st1 := [.int x10, .ref 197]) (M1 := mjTo Z) (fun _ _ => rfl) ?_
          have hk125 : mjIn x10 168 = true := by
            by_cases q9 : mjIn x10 168 = true
            · exact q9
            · rw [if_neg q9] at h; cases h
          rw [if_pos hk125] at h
          refine pG_lal rfl (by rfl) hk125 ?_
          refine pG_many 4 (pc1 := 160) (L1 := [some (.ref 190), some (.ref x1), some (.int x2), some (.long x3), d4, some (.int x5), some (.ref x6), d7, d8, some (.int x9), some (.int x10), some (.int s0), some (.long (1 <<< (Int32.toInt64 (x9 &&& 63) &&& 63))), none, d14]) (st1 := [.int (lg_cmp ((Z.2.1 197 (mjIx x10)) &&& (1 <<< (Int32.toInt64 (x9 &&& 63) &&& 63))) 0)]) (M1 := mjTo Z) (fun _ _ => rfl) ?_
          by_cases hc126 : mjCmp .ne (lg_cmp ((Z.2.1 197 (mjIx x10)) &&& (1 <<< (Int32.toInt64 (x9 &&& 63) &&& 63))) 0) 0 = true
          · rw [if_pos hc126] at h
            refine pG_ift (t := 224) rfl rfl hc126 ?_
            exact f95_isUnstruck_j224_ok R hR x1 x2 x3 x5 x10 (1 <<< (Int32.toInt64 (x9 &&& 63) &&& 63)) d4 (some (.ref x6)) d7 d8 (some (.int x9)) (some (.int s0)) none d14 Z v9 Z9 h
          · rw [if_neg hc126] at h
            refine pG_iff (t := 224) rfl rfl hc126 ?_
            refine pG_many 1 (pc1 := 164) (L1 := [some (.ref 190), some (.ref x1), some (.int x2), some (.long x3), d4, some (.int x5), some (.ref x6), d7, d8, some (.int x9), some (.int x10), some (.int s0), some (.long (1 <<< (Int32.toInt64 (x9 &&& 63) &&& 63))), none, d14]) (st1 := [.ref 190]) (M1 := mjTo Z) (fun _ _ => rfl) ?_
            refine pG_getR (ci := 4) (f := 6) (b := 197) rfl rfl rfl (by rfl) (by decide) rfl ?_
            refine pG_many 2 (pc1 := 170) (L1 := [some (.ref 190), some (.ref x1), some (.int x2), some (.long x3), d4, some (.int x5), some (.ref x6), d7, d8, some (.int x9), some (.int x10), some (.int s0), some (.long (1 <<< (Int32.toInt64 (x9 &&& 63) &&& 63))), none, d14]) (st1 := [.int x10, .ref 197, .int x10, .ref 197]) (M1 := mjTo Z) (fun _ _ => rfl) ?_
            refine pG_lal rfl (by rfl) hk125 ?_
            refine pG_many 2 (pc1 := 174) (L1 := [some (.ref 190), some (.ref x1), some (.int x2), some (.long x3), d4, some (.int x5), some (.ref x6), d7, d8, some (.int x9), some (.int x10), some (.int s0), some (.long (1 <<< (Int32.toInt64 (x9 &&& 63) &&& 63))), none, d14]) (st1 := [.long ((Z.2.1 197 (mjIx x10)) ||| (1 <<< (Int32.toInt64 (x9 &&& 63) &&& 63))), .int x10, .ref 197]) (M1 := mjTo Z) (fun _ _ => rfl) ?_
            refine pG_las rfl (by rfl) hk125 (?_ : pG 93 175 [some (.ref 190), some (.ref x1), some (.int x2), some (.long x3), d4, some (.int x5), some (.ref x6), d7, d8, some (.int x9), some (.int x10), some (.int s0), some (.long (1 <<< (Int32.toInt64 (x9 &&& 63) &&& 63))), none, d14] [] (mjTo (zSl Z 197 (mjIx x10) ((Z.2.1 197 (mjIx x10)) ||| (1 <<< (Int32.toInt64 (x9 &&& 63) &&& 63))))) _)
            rw [mjLet] at h
            generalize zSl Z 197 (mjIx x10) ((Z.2.1 197 (mjIx x10)) ||| (1 <<< (Int32.toInt64 (x9 &&& 63) &&& 63))) = Z129 at h ⊢
            refine pG_many 4 (pc1 := 181) (L1 := [some (.ref 190), some (.ref x1), some (.int x2), some (.long x3), d4, some (.int x5), some (.ref x6), d7, d8, some (.int x9), some (.int x10), some (.int s0), some (.long (1 <<< (Int32.toInt64 (x9 &&& 63) &&& 63))), none, d14]) (st1 := [.ref x6, .int x5, .ref x1, .ref 190]) (M1 := mjTo Z129) (fun _ _ => rfl) ?_
            have hk130 : mjIs x6 211 0 = true := by
              by_cases q9 : mjIs x6 211 0 = true
              · exact q9
              · rw [if_neg q9] at h; cases h
            rw [if_pos hk130] at h
            refine pG_getI (ci := 0) (f := 3) rfl rfl (Or.inl rfl) hk130 (by decide) ?_
            refine pG_many 1 (pc1 := 186) (L1 := [some (.ref 190), some (.ref x1), some (.int x2), some (.long x3), d4, some (.int x5), some (.ref x6), d7, d8, some (.int x9), some (.int x10), some (.int s0), some (.long (1 <<< (Int32.toInt64 (x9 &&& 63) &&& 63))), none, d14]) (st1 := [.ref x6, .int (Z129.1 x6 3), .int x5, .ref x1, .ref 190]) (M1 := mjTo Z129) (fun _ _ => rfl) ?_
            refine pG_getI (ci := 0) (f := 4) rfl rfl (Or.inl rfl) hk130 (by decide) ?_
            refine pG_many 1 (pc1 := 190) (L1 := [some (.ref 190), some (.ref x1), some (.int x2), some (.long x3), d4, some (.int x5), some (.ref x6), d7, d8, some (.int x9), some (.int x10), some (.int s0), some (.long (1 <<< (Int32.toInt64 (x9 &&& 63) &&& 63))), none, d14]) (st1 := [.long x3, .int (Z129.1 x6 4), .int (Z129.1 x6 3), .int x5, .ref x1, .ref 190]) (M1 := mjTo Z129) (fun _ _ => rfl) ?_
            cases hq131 : f93_rulesStriking x1 x5 (Z129.1 x6 3) (Z129.1 x6 4) x3 Z129 with
            | none => rw [hq131] at h; cases h
            | some w =>
              obtain ⟨v132, Z133⟩ := w
              rw [hq131, mjBd_some] at h
              refine pG_callV (k2 := 92) (As := [.ref 190, .ref x1, .int x5, .int (Z129.1 x6 3), .int (Z129.1 x6 4), .long x3]) (rest := []) rfl rfl rfl rfl rfl (by rfl) (by decide) (by decide) (f93_rulesStriking_ok hq131) ?_
              rintro r9 M9 ⟨rfl, rfl⟩
              show pG 93 193 [some (.ref 190), some (.ref x1), some (.int x2), some (.long x3), d4, some (.int x5), some (.ref x6), d7, d8, some (.int x9), some (.int x10), some (.int s0), some (.long (1 <<< (Int32.toInt64 (x9 &&& 63) &&& 63))), none, d14] [.int v132] (mjTo Z133) _
              by_cases hc134 : mjCmp .eq v132 0 = true
              · rw [if_pos hc134] at h
                refine pG_ift (t := 200) rfl rfl hc134 ?_
                refine pG_many 1 (pc1 := 201) (L1 := [some (.ref 190), some (.ref x1), some (.int x2), some (.long x3), d4, some (.int x5), some (.ref x6), d7, d8, some (.int x9), some (.int x10), some (.int s0), some (.long (1 <<< (Int32.toInt64 (x9 &&& 63) &&& 63))), none, d14]) (st1 := [.int 0]) (M1 := mjTo Z133) (fun _ _ => rfl) ?_
                exact f95_isUnstruck_j201_ok R hR x1 x2 x3 x5 x10 (1 <<< (Int32.toInt64 (x9 &&& 63) &&& 63)) 0 d4 (some (.ref x6)) d7 d8 (some (.int x9)) (some (.int s0)) none d14 Z133 v9 Z9 h
              · rw [if_neg hc134] at h
                refine pG_iff (t := 200) rfl rfl hc134 ?_
                refine pG_many 2 (pc1 := 201) (L1 := [some (.ref 190), some (.ref x1), some (.int x2), some (.long x3), d4, some (.int x5), some (.ref x6), d7, d8, some (.int x9), some (.int x10), some (.int s0), some (.long (1 <<< (Int32.toInt64 (x9 &&& 63) &&& 63))), none, d14]) (st1 := [.int 1]) (M1 := mjTo Z133) (fun _ _ => rfl) ?_
                exact f95_isUnstruck_j201_ok R hR x1 x2 x3 x5 x10 (1 <<< (Int32.toInt64 (x9 &&& 63) &&& 63)) 1 d4 (some (.ref x6)) d7 d8 (some (.int x9)) (some (.int s0)) none d14 Z133 v9 Z9 h
def f95_isUnstruck_j106 (R : Nat → Int32 → Int64 → Int32 → mjZt → Option (Int32 × mjZt)) (x1 : Nat) (x2 : Int32) (x3 : Int64) (x5 : Int32) (x6 : Nat) (x9 : Int32) (x10 : Int32) (Z : mjZt) : Option (Int32 × mjZt) :=
  f95_isUnstruck_j107 R x1 x2 x3 x5 x6 x9 x10 0 Z
theorem f95_isUnstruck_j106_ok (R : Nat → Int32 → Int64 → Int32 → mjZt → Option (Int32 × mjZt)) (hR : ∀ (x1 : Nat) (x2 : Int32) (x3 : Int64) (x5 : Int32) (d4 d6 d7 d8 d9 d10 d11 d12 d13 d14 : Option Value) (Z : mjZt) (v9 : Int32) (Z9 : mjZt), R x1 x2 x3 x5 Z = some (v9, Z9) → pG 93 3 [some (.ref 190), some (.ref x1), some (.int x2), some (.long x3), d4, some (.int x5), d6, d7, d8, d9, d10, d11, d12, d13, d14] [] (mjTo Z) (fun r M1 => r = some (.int v9) ∧ M1 = mjTo Z9)) (x1 : Nat) (x2 : Int32) (x3 : Int64) (x5 : Int32) (x6 : Nat) (x9 : Int32) (x10 : Int32) (d4 d7 d8 d11 d12 d13 d14 : Option Value) (Z : mjZt) (v9 : Int32) (Z9 : mjZt) (h : f95_isUnstruck_j106 R x1 x2 x3 x5 x6 x9 x10 Z = some (v9, Z9)) : pG 93 106 [some (.ref 190), some (.ref x1), some (.int x2), some (.long x3), d4, some (.int x5), some (.ref x6), d7, d8, some (.int x9), some (.int x10), d11, d12, d13, d14] [] (mjTo Z) (fun r M1 => r = some (.int v9) ∧ M1 = mjTo Z9) := by
  unfold f95_isUnstruck_j106 at h
  refine pG_many 1 (pc1 := 107) (L1 := [some (.ref 190), some (.ref x1), some (.int x2), some (.long x3), d4, some (.int x5), some (.ref x6), d7, d8, some (.int x9), some (.int x10), d11, d12, d13, d14]) (st1 := [.int 0]) (M1 := mjTo Z) (fun _ _ => rfl) ?_
  exact f95_isUnstruck_j107_ok R hR x1 x2 x3 x5 x6 x9 x10 0 d4 d7 d8 d11 d12 d13 d14 Z v9 Z9 h
def f95_isUnstruck_h3 : Nat → Nat → Int32 → Int64 → Int32 → mjZt → Option (Int32 × mjZt)
  | 0, _, _, _, _, _ => none
  | n + 1, x1, x2, x3, x5, Z =>
    if mjIs x1 211 2 = true then
    if mjCmp .ge x5 (Z.1 x1 7) = true then
      some (1, Z)
    else
      mjBp (f6_deed x1 x5 Z) fun v104 =>
      mjBp (f21_longAt 195 x5 Z) fun v107 =>
      mjBp (f324_bitCount (v107 &&& (x3 ^^^ ((-1)))) Z) fun v110 =>
      mjBp (f21_longAt 196 x5 Z) fun v113 =>
      mjBp (f324_bitCount (v113 &&& (x3 ^^^ ((-1)))) Z) fun v116 =>
      mjLet ((x5 * 4) + ((((v110 * 16) + v116) : Int32) >>> ((6 : Int32) &&& 31)) : Int32) fun x_118 =>
      if mjIs v104 211 0 = true then
      if mjCmp .ne (Z.1 v104 1) x2 = true then
        f95_isUnstruck_j106 (f95_isUnstruck_h3 n) x1 x2 x3 x5 v104 ((v110 * 16) + v116) x_118 Z
      else
        if mjCmp .ne (lg_cmp ((x3 >>> (Int32.toInt64 x5 &&& 63)) &&& 1) 0) 0 = true then
          f95_isUnstruck_j106 (f95_isUnstruck_h3 n) x1 x2 x3 x5 v104 ((v110 * 16) + v116) x_118 Z
        else
          f95_isUnstruck_j107 (f95_isUnstruck_h3 n) x1 x2 x3 x5 v104 ((v110 * 16) + v116) x_118 1 Z
      else none
    else none
theorem f95_isUnstruck_h3_ok : ∀ (n : Nat) (x1 : Nat) (x2 : Int32) (x3 : Int64) (x5 : Int32) (d4 d6 d7 d8 d9 d10 d11 d12 d13 d14 : Option Value) (Z : mjZt) (v9 : Int32) (Z9 : mjZt), f95_isUnstruck_h3 n x1 x2 x3 x5 Z = some (v9, Z9) → pG 93 3 [some (.ref 190), some (.ref x1), some (.int x2), some (.long x3), d4, some (.int x5), d6, d7, d8, d9, d10, d11, d12, d13, d14] [] (mjTo Z) (fun r M1 => r = some (.int v9) ∧ M1 = mjTo Z9)
  | 0, x1, x2, x3, x5, d4, d6, d7, d8, d9, d10, d11, d12, d13, d14, Z, v9, Z9, h => by rw [f95_isUnstruck_h3] at h; cases h
  | n + 1, x1, x2, x3, x5, d4, d6, d7, d8, d9, d10, d11, d12, d13, d14, Z, v9, Z9, h => by
      rw [f95_isUnstruck_h3] at h
      refine pG_many 2 (pc1 := 6) (L1 := [some (.ref 190), some (.ref x1), some (.int x2), some (.long x3), d4, some (.int x5), d6, d7, d8, d9, d10, d11, d12, d13, d14]) (st1 := [.ref x1, .int x5]) (M1 := mjTo Z) (fun _ _ => rfl) ?_
      have hk101 : mjIs x1 211 2 = true := by
        by_cases q9 : mjIs x1 211 2 = true
        · exact q9
        · rw [if_neg q9] at h; cases h
      rw [if_pos hk101] at h
      refine pG_getI (ci := 2) (f := 7) rfl rfl (Or.inl rfl) hk101 (by decide) ?_
      by_cases hc102 : mjCmp .ge x5 (Z.1 x1 7) = true
      · rw [if_pos hc102] at h
        refine pG_cmt (t := 247) rfl rfl hc102 ?_
        refine pG_many 1 (pc1 := 248) (L1 := [some (.ref 190), some (.ref x1), some (.int x2), some (.long x3), d4, some (.int x5), d6, d7, d8, d9, d10, d11, d12, d13, d14]) (st1 := [.int 1]) (M1 := mjTo Z) (fun _ _ => rfl) ?_
        simp only [Option.some.injEq, Prod.mk.injEq] at h
        obtain ⟨rfl, rfl⟩ := h
        exact pG_ret (r := some (.int 1)) rfl ⟨rfl, rfl⟩
      · rw [if_neg hc102] at h
        refine pG_cmf (t := 247) rfl rfl hc102 ?_
        refine pG_many 2 (pc1 := 15) (L1 := [some (.ref 190), some (.ref x1), some (.int x2), some (.long x3), d4, some (.int x5), d6, d7, d8, d9, d10, d11, d12, d13, d14]) (st1 := [.int x5, .ref x1]) (M1 := mjTo Z) (fun _ _ => rfl) ?_
        cases hq103 : f6_deed x1 x5 Z with
        | none => rw [hq103] at h; cases h
        | some v104 =>
          rw [hq103, mjBp_some] at h
          refine pG_callV (k2 := 6) (As := [.ref x1, .int x5]) (rest := []) rfl rfl rfl rfl rfl (mjRcv_is hk101 (by decide)) (by decide) (by decide) (f6_deed_ok hq103) ?_
          rintro r9 M9 ⟨rfl, rfl⟩
          show pG 93 18 [some (.ref 190), some (.ref x1), some (.int x2), some (.long x3), d4, some (.int x5), d6, d7, d8, d9, d10, d11, d12, d13, d14] [.ref v104] (mjTo Z) _
          refine pG_many 2 (pc1 := 21) (L1 := [some (.ref 190), some (.ref x1), some (.int x2), some (.long x3), d4, some (.int x5), some (.ref v104), d7, d8, d9, d10, d11, d12, d13, d14]) (st1 := [.ref 190]) (M1 := mjTo Z) (fun _ _ => rfl) ?_
          refine pG_getR (ci := 4) (f := 4) (b := 195) rfl rfl rfl (by rfl) (by decide) rfl ?_
          refine pG_many 1 (pc1 := 26) (L1 := [some (.ref 190), some (.ref x1), some (.int x2), some (.long x3), d4, some (.int x5), some (.ref v104), d7, d8, d9, d10, d11, d12, d13, d14]) (st1 := [.int x5, .ref 195]) (M1 := mjTo Z) (fun _ _ => rfl) ?_
          cases hq106 : f21_longAt 195 x5 Z with
          | none => rw [hq106] at h; cases h
          | some v107 =>
            rw [hq106, mjBp_some] at h
            refine pG_call (k2 := 21) (As := [.ref 195, .int x5]) (rest := []) (fun _ _ => rfl) (by decide) (by decide) (f21_longAt_ok hq106) ?_
            rintro r9 M9 ⟨rfl, rfl⟩
            show pG 93 29 [some (.ref 190), some (.ref x1), some (.int x2), some (.long x3), d4, some (.int x5), some (.ref v104), d7, d8, d9, d10, d11, d12, d13, d14] [.long v107] (mjTo Z) _
            refine pG_many 4 (pc1 := 35) (L1 := [some (.ref 190), some (.ref x1), some (.int x2), some (.long x3), d4, some (.int x5), some (.ref v104), d7, d8, d9, d10, d11, d12, d13, d14]) (st1 := [.long (v107 &&& (x3 ^^^ ((-1))))]) (M1 := mjTo Z) (fun _ _ => rfl) ?_
            cases hq109 : f324_bitCount (v107 &&& (x3 ^^^ ((-1)))) Z with
            | none => rw [hq109] at h; cases h
            | some v110 =>
              rw [hq109, mjBp_some] at h
              refine pG_call (k2 := 167) (As := [.long (v107 &&& (x3 ^^^ ((-1))))]) (rest := []) (fun _ _ => rfl) (by decide) (by decide) (f324_bitCount_ok hq109) ?_
              rintro r9 M9 ⟨rfl, rfl⟩
              show pG 93 38 [some (.ref 190), some (.ref x1), some (.int x2), some (.long x3), d4, some (.int x5), some (.ref v104), d7, d8, d9, d10, d11, d12, d13, d14] [.int v110] (mjTo Z) _
              refine pG_many 2 (pc1 := 41) (L1 := [some (.ref 190), some (.ref x1), some (.int x2), some (.long x3), d4, some (.int x5), some (.ref v104), some (.int v110), d8, d9, d10, d11, d12, d13, d14]) (st1 := [.ref 190]) (M1 := mjTo Z) (fun _ _ => rfl) ?_
              refine pG_getR (ci := 4) (f := 5) (b := 196) rfl rfl rfl (by rfl) (by decide) rfl ?_
              refine pG_many 1 (pc1 := 46) (L1 := [some (.ref 190), some (.ref x1), some (.int x2), some (.long x3), d4, some (.int x5), some (.ref v104), some (.int v110), d8, d9, d10, d11, d12, d13, d14]) (st1 := [.int x5, .ref 196]) (M1 := mjTo Z) (fun _ _ => rfl) ?_
              cases hq112 : f21_longAt 196 x5 Z with
              | none => rw [hq112] at h; cases h
              | some v113 =>
                rw [hq112, mjBp_some] at h
                refine pG_call (k2 := 21) (As := [.ref 196, .int x5]) (rest := []) (fun _ _ => rfl) (by decide) (by decide) (f21_longAt_ok hq112) ?_
                rintro r9 M9 ⟨rfl, rfl⟩
                show pG 93 49 [some (.ref 190), some (.ref x1), some (.int x2), some (.long x3), d4, some (.int x5), some (.ref v104), some (.int v110), d8, d9, d10, d11, d12, d13, d14] [.long v113] (mjTo Z) _
                refine pG_many 4 (pc1 := 55) (L1 := [some (.ref 190), some (.ref x1), some (.int x2), some (.long x3), d4, some (.int x5), some (.ref v104), some (.int v110), d8, d9, d10, d11, d12, d13, d14]) (st1 := [.long (v113 &&& (x3 ^^^ ((-1))))]) (M1 := mjTo Z) (fun _ _ => rfl) ?_
                cases hq115 : f324_bitCount (v113 &&& (x3 ^^^ ((-1)))) Z with
                | none => rw [hq115] at h; cases h
                | some v116 =>
                  rw [hq115, mjBp_some] at h
                  refine pG_call (k2 := 167) (As := [.long (v113 &&& (x3 ^^^ ((-1))))]) (rest := []) (fun _ _ => rfl) (by decide) (by decide) (f324_bitCount_ok hq115) ?_
                  rintro r9 M9 ⟨rfl, rfl⟩
                  show pG 93 58 [some (.ref 190), some (.ref x1), some (.int x2), some (.long x3), d4, some (.int x5), some (.ref v104), some (.int v110), d8, d9, d10, d11, d12, d13, d14] [.int v116] (mjTo Z) _
                  refine pG_many 15 (pc1 := 82) (L1 := [some (.ref 190), some (.ref x1), some (.int x2), some (.long x3), d4, some (.int x5), some (.ref v104), some (.int v110), some (.int v116), some (.int ((v110 * 16) + v116)), some (.int ((x5 * 4) + ((((v110 * 16) + v116) : Int32) >>> ((6 : Int32) &&& 31)))), d11, d12, d13, d14]) (st1 := []) (M1 := mjTo Z) (fun _ _ => rfl) ?_
                  rw [mjLet] at h
                  generalize ((x5 * 4) + ((((v110 * 16) + v116) : Int32) >>> ((6 : Int32) &&& 31)) : Int32) = x_118 at h ⊢
                  refine pG_many 1 (pc1 := 84) (L1 := [some (.ref 190), some (.ref x1), some (.int x2), some (.long x3), d4, some (.int x5), some (.ref v104), some (.int v110), some (.int v116), some (.int ((v110 * 16) + v116)), some (.int x_118), d11, d12, d13, d14]) (st1 := [.ref v104]) (M1 := mjTo Z) (fun _ _ => rfl) ?_
                  have hk119 : mjIs v104 211 0 = true := by
                    by_cases q9 : mjIs v104 211 0 = true
                    · exact q9
                    · rw [if_neg q9] at h; cases h
                  rw [if_pos hk119] at h
                  refine pG_getI (ci := 0) (f := 1) rfl rfl (Or.inl rfl) hk119 (by decide) ?_
                  refine pG_many 1 (pc1 := 88) (L1 := [some (.ref 190), some (.ref x1), some (.int x2), some (.long x3), d4, some (.int x5), some (.ref v104), some (.int v110), some (.int v116), some (.int ((v110 * 16) + v116)), some (.int x_118), d11, d12, d13, d14]) (st1 := [.int x2, .int (Z.1 v104 1)]) (M1 := mjTo Z) (fun _ _ => rfl) ?_
                  by_cases hc120 : mjCmp .ne (Z.1 v104 1) x2 = true
                  · rw [if_pos hc120] at h
                    refine pG_cmt (t := 106) rfl rfl hc120 ?_
                    exact f95_isUnstruck_j106_ok (f95_isUnstruck_h3 n) (fun x1 x2 x3 x5 d4 d6 d7 d8 d9 d10 d11 d12 d13 d14 Z v9 Z9 h => f95_isUnstruck_h3_ok n x1 x2 x3 x5 d4 d6 d7 d8 d9 d10 d11 d12 d13 d14 Z v9 Z9 h) x1 x2 x3 x5 v104 ((v110 * 16) + v116) x_118 d4 (some (.int v110)) (some (.int v116)) d11 d12 d13 d14 Z v9 Z9 h
                  · rw [if_neg hc120] at h
                    refine pG_cmf (t := 106) rfl rfl hc120 ?_
                    refine pG_many 7 (pc1 := 99) (L1 := [some (.ref 190), some (.ref x1), some (.int x2), some (.long x3), d4, some (.int x5), some (.ref v104), some (.int v110), some (.int v116), some (.int ((v110 * 16) + v116)), some (.int x_118), d11, d12, d13, d14]) (st1 := [.int (lg_cmp ((x3 >>> (Int32.toInt64 x5 &&& 63)) &&& 1) 0)]) (M1 := mjTo Z) (fun _ _ => rfl) ?_
                    by_cases hc139 : mjCmp .ne (lg_cmp ((x3 >>> (Int32.toInt64 x5 &&& 63)) &&& 1) 0) 0 = true
                    · rw [if_pos hc139] at h
                      refine pG_ift (t := 106) rfl rfl hc139 ?_
                      exact f95_isUnstruck_j106_ok (f95_isUnstruck_h3 n) (fun x1 x2 x3 x5 d4 d6 d7 d8 d9 d10 d11 d12 d13 d14 Z v9 Z9 h => f95_isUnstruck_h3_ok n x1 x2 x3 x5 d4 d6 d7 d8 d9 d10 d11 d12 d13 d14 Z v9 Z9 h) x1 x2 x3 x5 v104 ((v110 * 16) + v116) x_118 d4 (some (.int v110)) (some (.int v116)) d11 d12 d13 d14 Z v9 Z9 h
                    · rw [if_neg hc139] at h
                      refine pG_iff (t := 106) rfl rfl hc139 ?_
                      refine pG_many 2 (pc1 := 107) (L1 := [some (.ref 190), some (.ref x1), some (.int x2), some (.long x3), d4, some (.int x5), some (.ref v104), some (.int v110), some (.int v116), some (.int ((v110 * 16) + v116)), some (.int x_118), d11, d12, d13, d14]) (st1 := [.int 1]) (M1 := mjTo Z) (fun _ _ => rfl) ?_
                      exact f95_isUnstruck_j107_ok (f95_isUnstruck_h3 n) (fun x1 x2 x3 x5 d4 d6 d7 d8 d9 d10 d11 d12 d13 d14 Z v9 Z9 h => f95_isUnstruck_h3_ok n x1 x2 x3 x5 d4 d6 d7 d8 d9 d10 d11 d12 d13 d14 Z v9 Z9 h) x1 x2 x3 x5 v104 ((v110 * 16) + v116) x_118 1 d4 (some (.int v110)) (some (.int v116)) d11 d12 d13 d14 Z v9 Z9 h
def f95_isUnstruck (p0 : Nat) (p1 : Int32) (p2 : Int64) (Z : mjZt) : Option (Int32 × mjZt) :=
  f95_isUnstruck_h3 mjF p0 p1 p2 0 Z
theorem f95_isUnstruck_ok {p0 : Nat} {p1 : Int32} {p2 : Int64} {Z : mjZt} {v9 : Int32} {Z9 : mjZt} (h : f95_isUnstruck p0 p1 p2 Z = some (v9, Z9)) : pG 93 0 (mjEnt [.ref 190, .ref p0, .int p1, .long p2] (mjML 93)) [] (mjTo Z) (fun r M1 => r = some (.int v9) ∧ M1 = mjTo Z9) := by
  unfold f95_isUnstruck at h
  show pG 93 0 [some (.ref 190), some (.ref p0), some (.int p1), some (.long p2), none, none, none, none, none, none, none, none, none, none, none] [] (mjTo Z) _
  refine pG_many 2 (pc1 := 3) (L1 := [some (.ref 190), some (.ref p0), some (.int p1), some (.long p2), none, some (.int 0), none, none, none, none, none, none, none, none, none]) (st1 := []) (M1 := mjTo Z) (fun _ _ => rfl) ?_
  exact f95_isUnstruck_h3_ok mjF p0 p1 p2 0 none none none none none none none none none none Z v9 Z9 h
def f323_bitCount (p0 : Int32) (Z : mjZt) : Option Int32 :=
  mjLet (p0 - ((((p0 : Int32).toUInt32 >>> ((1 : Int32).toUInt32 &&& Int32.toUInt32 31)).toInt32) &&& 1431655765) : Int32) fun x_101 =>
  mjLet ((x_101 &&& 858993459) + ((((x_101 : Int32).toUInt32 >>> ((2 : Int32).toUInt32 &&& Int32.toUInt32 31)).toInt32) &&& 858993459) : Int32) fun x_102 =>
  mjLet ((x_102 + (((x_102 : Int32).toUInt32 >>> ((4 : Int32).toUInt32 &&& Int32.toUInt32 31)).toInt32)) &&& 252645135 : Int32) fun x_103 =>
  mjLet (x_103 + (((x_103 : Int32).toUInt32 >>> ((8 : Int32).toUInt32 &&& Int32.toUInt32 31)).toInt32) : Int32) fun x_104 =>
  mjLet (x_104 + (((x_104 : Int32).toUInt32 >>> ((16 : Int32).toUInt32 &&& Int32.toUInt32 31)).toInt32) : Int32) fun x_105 =>
  some (x_105 &&& 63)
theorem f323_bitCount_ok {p0 : Int32} {Z : mjZt} {v9 : Int32} (h : f323_bitCount p0 Z = some v9) : pG 166 0 (mjEnt [.int p0] (mjML 166)) [] (mjTo Z) (fun r M1 => r = some (.int v9) ∧ M1 = mjTo Z) := by
  unfold f323_bitCount at h
  show pG 166 0 [some (.int p0)] [] (mjTo Z) _
  refine pG_many 8 (pc1 := 10) (L1 := [some (.int (p0 - ((((p0 : Int32).toUInt32 >>> ((1 : Int32).toUInt32 &&& Int32.toUInt32 31)).toInt32) &&& 1431655765)))]) (st1 := []) (M1 := mjTo Z) (fun _ _ => rfl) ?_
  rw [mjLet] at h
  generalize (p0 - ((((p0 : Int32).toUInt32 >>> ((1 : Int32).toUInt32 &&& Int32.toUInt32 31)).toInt32) &&& 1431655765) : Int32) = x_101 at h ⊢
  refine pG_many 10 (pc1 := 24) (L1 := [some (.int ((x_101 &&& 858993459) + ((((x_101 : Int32).toUInt32 >>> ((2 : Int32).toUInt32 &&& Int32.toUInt32 31)).toInt32) &&& 858993459)))]) (st1 := []) (M1 := mjTo Z) (fun _ _ => rfl) ?_
  rw [mjLet] at h
  generalize ((x_101 &&& 858993459) + ((((x_101 : Int32).toUInt32 >>> ((2 : Int32).toUInt32 &&& Int32.toUInt32 31)).toInt32) &&& 858993459) : Int32) = x_102 at h ⊢
  refine pG_many 8 (pc1 := 34) (L1 := [some (.int ((x_102 + (((x_102 : Int32).toUInt32 >>> ((4 : Int32).toUInt32 &&& Int32.toUInt32 31)).toInt32)) &&& 252645135))]) (st1 := []) (M1 := mjTo Z) (fun _ _ => rfl) ?_
  rw [mjLet] at h
  generalize ((x_102 + (((x_102 : Int32).toUInt32 >>> ((4 : Int32).toUInt32 &&& Int32.toUInt32 31)).toInt32)) &&& 252645135 : Int32) = x_103 at h ⊢
  refine pG_many 6 (pc1 := 41) (L1 := [some (.int (x_103 + (((x_103 : Int32).toUInt32 >>> ((8 : Int32).toUInt32 &&& Int32.toUInt32 31)).toInt32)))]) (st1 := []) (M1 := mjTo Z) (fun _ _ => rfl) ?_
  rw [mjLet] at h
  generalize (x_103 + (((x_103 : Int32).toUInt32 >>> ((8 : Int32).toUInt32 &&& Int32.toUInt32 31)).toInt32) : Int32) = x_104 at h ⊢
  refine pG_many 6 (pc1 := 48) (L1 := [some (.int (x_104 + (((x_104 : Int32).toUInt32 >>> ((16 : Int32).toUInt32 &&& Int32.toUInt32 31)).toInt32)))]) (st1 := []) (M1 := mjTo Z) (fun _ _ => rfl) ?_
  rw [mjLet] at h
  generalize (x_104 + (((x_104 : Int32).toUInt32 >>> ((16 : Int32).toUInt32 &&& Int32.toUInt32 31)).toInt32) : Int32) = x_105 at h ⊢
  refine pG_many 3 (pc1 := 52) (L1 := [some (.int x_105)]) (st1 := [.int (x_105 &&& 63)]) (M1 := mjTo Z) (fun _ _ => rfl) ?_
  simp only [Option.some.injEq] at h
  subst h
  exact pG_ret (r := some (.int (x_105 &&& 63))) rfl ⟨rfl, rfl⟩
def f326_fill_h6 : Nat → Nat → Int64 → Int32 → Int32 → mjZt → Option (Unit × mjZt)
  | 0, _, _, _, _, _ => none
  | n + 1, x0, x1, x3, x4, Z =>
    if mjCmp .ge x3 x4 = true then
      some ((), Z)
    else
      if mjIs x0 211 14 = true then
      if mjIn x3 (mjLay x0).2 = true then
      mjLet (zSl Z x0 (mjIx x3) x1) fun Z105 =>
      f326_fill_h6 n x0 x1 (x3 + 1) x4 Z105
      else none
      else none
theorem f326_fill_h6_ok : ∀ (n : Nat) (x0 : Nat) (x1 : Int64) (x3 : Int32) (x4 : Int32) (d2 : Option Value) (Z : mjZt) (v9 : Unit) (Z9 : mjZt), f326_fill_h6 n x0 x1 x3 x4 Z = some (v9, Z9) → pG 169 6 [some (.ref x0), some (.long x1), d2, some (.int x3), some (.int x4)] [] (mjTo Z) (fun r M1 => r = none ∧ M1 = mjTo Z9)
  | 0, x0, x1, x3, x4, d2, Z, v9, Z9, h => by rw [f326_fill_h6] at h; cases h
  | n + 1, x0, x1, x3, x4, d2, Z, v9, Z9, h => by
      rw [f326_fill_h6] at h
      refine pG_many 2 (pc1 := 9) (L1 := [some (.ref x0), some (.long x1), d2, some (.int x3), some (.int x4)]) (st1 := [.int x4, .int x3]) (M1 := mjTo Z) (fun _ _ => rfl) ?_
      by_cases hc102 : mjCmp .ge x3 x4 = true
      · rw [if_pos hc102] at h
        refine pG_cmt (t := 22) rfl rfl hc102 ?_
        simp only [Option.some.injEq, Prod.mk.injEq] at h
        obtain ⟨-, rfl⟩ := h
        exact pG_ret (r := none) rfl ⟨rfl, rfl⟩
      · rw [if_neg hc102] at h
        refine pG_cmf (t := 22) rfl rfl hc102 ?_
        refine pG_many 3 (pc1 := 15) (L1 := [some (.ref x0), some (.long x1), d2, some (.int x3), some (.int x4)]) (st1 := [.long x1, .int x3, .ref x0]) (M1 := mjTo Z) (fun _ _ => rfl) ?_
        have hk103 : mjIs x0 211 14 = true := by
          by_cases q9 : mjIs x0 211 14 = true
          · exact q9
          · rw [if_neg q9] at h; cases h
        rw [if_pos hk103] at h
        have hk104 : mjIn x3 (mjLay x0).2 = true := by
          by_cases q9 : mjIn x3 (mjLay x0).2 = true
          · exact q9
          · rw [if_neg q9] at h; cases h
        rw [if_pos hk104] at h
        refine pG_las rfl hk103 hk104 (?_ : pG 169 16 [some (.ref x0), some (.long x1), d2, some (.int x3), some (.int x4)] [] (mjTo (zSl Z x0 (mjIx x3) x1)) _)
        rw [mjLet] at h
        generalize zSl Z x0 (mjIx x3) x1 = Z105 at h ⊢
        refine pG_many 2 (pc1 := 6) (L1 := [some (.ref x0), some (.long x1), (mjK1 d2), some (.int (x3 + 1)), some (.int x4)]) (st1 := []) (M1 := mjTo Z105) (fun _ _ => rfl) ?_
        exact f326_fill_h6_ok n x0 x1 (x3 + 1) x4 ((mjK1 d2)) Z105 v9 Z9 h
def f326_fill (p0 : Nat) (p1 : Int64) (Z : mjZt) : Option (Unit × mjZt) :=
  if mjIs p0 211 14 = true then
  f326_fill_h6 mjF p0 p1 0 (Int32.ofNat (mjLay p0).2) Z
  else none
theorem f326_fill_ok {p0 : Nat} {p1 : Int64} {Z : mjZt} {v9 : Unit} {Z9 : mjZt} (h : f326_fill p0 p1 Z = some (v9, Z9)) : pG 169 0 (mjEnt [.ref p0, .long p1] (mjML 169)) [] (mjTo Z) (fun r M1 => r = none ∧ M1 = mjTo Z9) := by
  unfold f326_fill at h
  show pG 169 0 [some (.ref p0), some (.long p1), none, none, none] [] (mjTo Z) _
  refine pG_many 3 (pc1 := 3) (L1 := [some (.ref p0), some (.long p1), none, some (.int 0), none]) (st1 := [.ref p0]) (M1 := mjTo Z) (fun _ _ => rfl) ?_
  have hk101 : mjIs p0 211 14 = true := by
    by_cases q9 : mjIs p0 211 14 = true
    · exact q9
    · rw [if_neg q9] at h; cases h
  rw [if_pos hk101] at h
  refine pG_lenS (c := 14) rfl (by decide) (by decide) hk101 ?_
  refine pG_many 1 (pc1 := 6) (L1 := [some (.ref p0), some (.long p1), none, some (.int 0), some (.int (Int32.ofNat (mjLay p0).2))]) (st1 := []) (M1 := mjTo Z) (fun _ _ => rfl) ?_
  exact f326_fill_h6_ok mjF p0 p1 0 (Int32.ofNat (mjLay p0).2) none Z v9 Z9 h
def f96_fewestWaived_h91 : Nat → Nat → Int32 → Int32 → Int32 → Int32 → Int32 → mjZt → Option (Int32 × mjZt)
  | 0, _, _, _, _, _, _, _ => none
  | n + 1, x1, x2, x3, x4, x5, x6, Z =>
    if mjCmp .ge x6 x3 = true then
      some (x5, Z)
    else
      mjBp (f323_bitCount x6 Z) fun v111 =>
      if mjIs x1 211 2 = true then
      if mjCmp .ne (lg_cmp ((Int32.toInt64 x6) &&& (Z.2.1 x1 11)) 0) 0 = true then
        f96_fewestWaived_h91 n x1 x2 x3 x4 x5 (x6 + 1) Z
      else
        if mjCmp .ge v111 x4 = true then
          f96_fewestWaived_h91 n x1 x2 x3 x4 x5 (x6 + 1) Z
        else
          mjBd (f95_isUnstruck x1 x2 ((Z.2.1 x1 11) ||| (Int32.toInt64 x6)) Z) fun v117 Z118 =>
          if mjCmp .eq v117 0 = true then
            f96_fewestWaived_h91 n x1 x2 x3 x4 x5 (x6 + 1) Z118
          else
            f96_fewestWaived_h91 n x1 x2 x3 v111 x6 (x6 + 1) Z118
      else none
theorem f96_fewestWaived_h91_ok : ∀ (n : Nat) (x1 : Nat) (x2 : Int32) (x3 : Int32) (x4 : Int32) (x5 : Int32) (x6 : Int32) (d7 : Option Value) (Z : mjZt) (v9 : Int32) (Z9 : mjZt), f96_fewestWaived_h91 n x1 x2 x3 x4 x5 x6 Z = some (v9, Z9) → pG 94 91 [some (.ref 190), some (.ref x1), some (.int x2), some (.int x3), some (.int x4), some (.int x5), some (.int x6), d7] [] (mjTo Z) (fun r M1 => r = some (.int v9) ∧ M1 = mjTo Z9)
  | 0, x1, x2, x3, x4, x5, x6, d7, Z, v9, Z9, h => by rw [f96_fewestWaived_h91] at h; cases h
  | n + 1, x1, x2, x3, x4, x5, x6, d7, Z, v9, Z9, h => by
      rw [f96_fewestWaived_h91] at h
      refine pG_many 2 (pc1 := 94) (L1 := [some (.ref 190), some (.ref x1), some (.int x2), some (.int x3), some (.int x4), some (.int x5), some (.int x6), d7]) (st1 := [.int x3, .int x6]) (M1 := mjTo Z) (fun _ _ => rfl) ?_
      by_cases hc109 : mjCmp .ge x6 x3 = true
      · rw [if_pos hc109] at h
        refine pG_cmt (t := 155) rfl rfl hc109 ?_
        refine pG_many 1 (pc1 := 157) (L1 := [some (.ref 190), some (.ref x1), some (.int x2), some (.int x3), some (.int x4), some (.int x5), some (.int x6), d7]) (st1 := [.int x5]) (M1 := mjTo Z) (fun _ _ => rfl) ?_
        simp only [Option.some.injEq, Prod.mk.injEq] at h
        obtain ⟨rfl, rfl⟩ := h
        exact pG_ret (r := some (.int x5)) rfl ⟨rfl, rfl⟩
      · rw [if_neg hc109] at h
        refine pG_cmf (t := 155) rfl rfl hc109 ?_
        refine pG_many 1 (pc1 := 99) (L1 := [some (.ref 190), some (.ref x1), some (.int x2), some (.int x3), some (.int x4), some (.int x5), some (.int x6), d7]) (st1 := [.int x6]) (M1 := mjTo Z) (fun _ _ => rfl) ?_
        cases hq110 : f323_bitCount x6 Z with
        | none => rw [hq110] at h; cases h
        | some v111 =>
          rw [hq110, mjBp_some] at h
          refine pG_call (k2 := 166) (As := [.int x6]) (rest := []) (fun _ _ => rfl) (by decide) (by decide) (f323_bitCount_ok hq110) ?_
          rintro r9 M9 ⟨rfl, rfl⟩
          show pG 94 102 [some (.ref 190), some (.ref x1), some (.int x2), some (.int x3), some (.int x4), some (.int x5), some (.int x6), d7] [.int v111] (mjTo Z) _
          refine pG_many 4 (pc1 := 108) (L1 := [some (.ref 190), some (.ref x1), some (.int x2), some (.int x3), some (.int x4), some (.int x5), some (.int x6), some (.int v111)]) (st1 := [.ref x1, .long (Int32.toInt64 x6)]) (M1 := mjTo Z) (fun _ _ => rfl) ?_
          have hk113 : mjIs x1 211 2 = true := by
            by_cases q9 : mjIs x1 211 2 = true
            · exact q9
            · rw [if_neg q9] at h; cases h
          rw [if_pos hk113] at h
          refine pG_getL (ci := 2) (f := 11) rfl rfl rfl hk113 (by decide) ?_
          refine pG_many 3 (pc1 := 114) (L1 := [some (.ref 190), some (.ref x1), some (.int x2), some (.int x3), some (.int x4), some (.int x5), some (.int x6), some (.int v111)]) (st1 := [.int (lg_cmp ((Int32.toInt64 x6) &&& (Z.2.1 x1 11)) 0)]) (M1 := mjTo Z) (fun _ _ => rfl) ?_
          by_cases hc114 : mjCmp .ne (lg_cmp ((Int32.toInt64 x6) &&& (Z.2.1 x1 11)) 0) 0 = true
          · rw [if_pos hc114] at h
            refine pG_ift (t := 149) rfl rfl hc114 ?_
            refine pG_many 2 (pc1 := 91) (L1 := [some (.ref 190), some (.ref x1), some (.int x2), some (.int x3), some (.int x4), some (.int x5), some (.int (x6 + 1)), some (.int v111)]) (st1 := []) (M1 := mjTo Z) (fun _ _ => rfl) ?_
            exact f96_fewestWaived_h91_ok n x1 x2 x3 x4 x5 (x6 + 1) (some (.int v111)) Z v9 Z9 h
          · rw [if_neg hc114] at h
            refine pG_iff (t := 149) rfl rfl hc114 ?_
            refine pG_many 2 (pc1 := 121) (L1 := [some (.ref 190), some (.ref x1), some (.int x2), some (.int x3), some (.int x4), some (.int x5), some (.int x6), some (.int v111)]) (st1 := [.int x4, .int v111]) (M1 := mjTo Z) (fun _ _ => rfl) ?_
            by_cases hc115 : mjCmp .ge v111 x4 = true
            · rw [if_pos hc115] at h
              refine pG_cmt (t := 149) rfl rfl hc115 ?_
              refine pG_many 2 (pc1 := 91) (L1 := [some (.ref 190), some (.ref x1), some (.int x2), some (.int x3), some (.int x4), some (.int x5), some (.int (x6 + 1)), some (.int v111)]) (st1 := []) (M1 := mjTo Z) (fun _ _ => rfl) ?_
              exact f96_fewestWaived_h91_ok n x1 x2 x3 x4 x5 (x6 + 1) (some (.int v111)) Z v9 Z9 h
            · rw [if_neg hc115] at h
              refine pG_cmf (t := 149) rfl rfl hc115 ?_
              refine pG_many 4 (pc1 := 128) (L1 := [some (.ref 190), some (.ref x1), some (.int x2), some (.int x3), some (.int x4), some (.int x5), some (.int x6), some (.int v111)]) (st1 := [.ref x1, .int x2, .ref x1, .ref 190]) (M1 := mjTo Z) (fun _ _ => rfl) ?_
              refine pG_getL (ci := 2) (f := 11) rfl rfl rfl hk113 (by decide) ?_
              refine pG_many 3 (pc1 := 135) (L1 := [some (.ref 190), some (.ref x1), some (.int x2), some (.int x3), some (.int x4), some (.int x5), some (.int x6), some (.int v111)]) (st1 := [.long ((Z.2.1 x1 11) ||| (Int32.toInt64 x6)), .int x2, .ref x1, .ref 190]) (M1 := mjTo Z) (fun _ _ => rfl) ?_
              cases hq116 : f95_isUnstruck x1 x2 ((Z.2.1 x1 11) ||| (Int32.toInt64 x6)) Z with
              | none => rw [hq116] at h; cases h
              | some w =>
                obtain ⟨v117, Z118⟩ := w
                rw [hq116, mjBd_some] at h
                refine pG_callV (k2 := 93) (As := [.ref 190, .ref x1, .int x2, .long ((Z.2.1 x1 11) ||| (Int32.toInt64 x6))]) (rest := []) rfl rfl rfl rfl rfl (by rfl) (by decide) (by decide) (f95_isUnstruck_ok hq116) ?_
                rintro r9 M9 ⟨rfl, rfl⟩
                show pG 94 138 [some (.ref 190), some (.ref x1), some (.int x2), some (.int x3), some (.int x4), some (.int x5), some (.int x6), some (.int v111)] [.int v117] (mjTo Z118) _
                by_cases hc119 : mjCmp .eq v117 0 = true
                · rw [if_pos hc119] at h
                  refine pG_ift (t := 149) rfl rfl hc119 ?_
                  refine pG_many 2 (pc1 := 91) (L1 := [some (.ref 190), some (.ref x1), some (.int x2), some (.int x3), some (.int x4), some (.int x5), some (.int (x6 + 1)), some (.int v111)]) (st1 := []) (M1 := mjTo Z118) (fun _ _ => rfl) ?_
                  exact f96_fewestWaived_h91_ok n x1 x2 x3 x4 x5 (x6 + 1) (some (.int v111)) Z118 v9 Z9 h
                · rw [if_neg hc119] at h
                  refine pG_iff (t := 149) rfl rfl hc119 ?_
                  refine pG_many 6 (pc1 := 91) (L1 := [some (.ref 190), some (.ref x1), some (.int x2), some (.int x3), some (.int v111), some (.int x6), some (.int (x6 + 1)), some (.int v111)]) (st1 := []) (M1 := mjTo Z118) (fun _ _ => rfl) ?_
                  exact f96_fewestWaived_h91_ok n x1 x2 x3 v111 x6 (x6 + 1) (some (.int v111)) Z118 v9 Z9 h
def f96_fewestWaived_h18 : Nat → Nat → Int32 → Int32 → mjZt → Option (Int32 × mjZt)
  | 0, _, _, _, _ => none
  | n + 1, x1, x2, x3, Z =>
    if mjCmp .ge x3 42 = true then
      if mjIs x1 211 2 = true then
      f96_fewestWaived_h91 mjF x1 x2 ((1 : Int32) <<< (((mjMin (Z.1 x1 6) 12) : Int32) &&& 31)) 13 ((-2)) 0 Z
      else none
    else
      if mjIs x1 211 2 = true then
      mjBp (f6_deed x1 x3 Z) fun v122 =>
      if mjIs v122 211 0 = true then
      mjBp (f41_earlier x1 x3 (Z.1 v122 3) Z) fun v126 =>
      if mjIn x3 42 = true then
      mjLet (zSl Z 195 (mjIx x3) v126) fun Z129 =>
      mjBp (f6_deed x1 x3 Z129) fun v131 =>
      if mjIs v131 211 0 = true then
      mjBp (f42_forcers x1 x3 (Z129.1 v131 3) Z129) fun v135 =>
      mjLet (zSl Z129 196 (mjIx x3) v135) fun Z137 =>
      f96_fewestWaived_h18 n x1 x2 (x3 + 1) Z137
      else none
      else none
      else none
      else none
theorem f96_fewestWaived_h18_ok : ∀ (n : Nat) (x1 : Nat) (x2 : Int32) (x3 : Int32) (d4 d5 d6 d7 : Option Value) (Z : mjZt) (v9 : Int32) (Z9 : mjZt), f96_fewestWaived_h18 n x1 x2 x3 Z = some (v9, Z9) → pG 94 18 [some (.ref 190), some (.ref x1), some (.int x2), some (.int x3), d4, d5, d6, d7] [] (mjTo Z) (fun r M1 => r = some (.int v9) ∧ M1 = mjTo Z9)
  | 0, x1, x2, x3, d4, d5, d6, d7, Z, v9, Z9, h => by rw [f96_fewestWaived_h18] at h; cases h
  | n + 1, x1, x2, x3, d4, d5, d6, d7, Z, v9, Z9, h => by
      rw [f96_fewestWaived_h18] at h
      refine pG_many 2 (pc1 := 21) (L1 := [some (.ref 190), some (.ref x1), some (.int x2), some (.int x3), d4, d5, d6, d7]) (st1 := [.int 42, .int x3]) (M1 := mjTo Z) (fun _ _ => rfl) ?_
      by_cases hc107 : mjCmp .ge x3 42 = true
      · rw [if_pos hc107] at h
        refine pG_cmt (t := 68) rfl rfl hc107 ?_
        refine pG_many 2 (pc1 := 70) (L1 := [some (.ref 190), some (.ref x1), some (.int x2), some (.int x3), d4, d5, d6, d7]) (st1 := [.ref x1, .int 1]) (M1 := mjTo Z) (fun _ _ => rfl) ?_
        have hk108 : mjIs x1 211 2 = true := by
          by_cases q9 : mjIs x1 211 2 = true
          · exact q9
          · rw [if_neg q9] at h; cases h
        rw [if_pos hk108] at h
        refine pG_getI (ci := 2) (f := 6) rfl rfl (Or.inl rfl) hk108 (by decide) ?_
        refine pG_many 1 (pc1 := 75) (L1 := [some (.ref 190), some (.ref x1), some (.int x2), some (.int x3), d4, d5, d6, d7]) (st1 := [.int 12, .int (Z.1 x1 6), .int 1]) (M1 := mjTo Z) (fun _ _ => rfl) ?_
        refine pG_prim (v := .int (mjMin (Z.1 x1 6) 12)) (fun _ _ => rfl) (by decide) rfl ?_
        refine pG_many 8 (pc1 := 91) (L1 := [some (.ref 190), some (.ref x1), some (.int x2), some (.int ((1 : Int32) <<< (((mjMin (Z.1 x1 6) 12) : Int32) &&& 31))), some (.int 13), some (.int ((-2))), some (.int 0), d7]) (st1 := []) (M1 := mjTo Z) (fun _ _ => rfl) ?_
        exact f96_fewestWaived_h91_ok mjF x1 x2 ((1 : Int32) <<< (((mjMin (Z.1 x1 6) 12) : Int32) &&& 31)) 13 ((-2)) 0 d7 Z v9 Z9 h
      · rw [if_neg hc107] at h
        refine pG_cmf (t := 68) rfl rfl hc107 ?_
        refine pG_many 1 (pc1 := 25) (L1 := [some (.ref 190), some (.ref x1), some (.int x2), some (.int x3), d4, d5, d6, d7]) (st1 := [.ref 190]) (M1 := mjTo Z) (fun _ _ => rfl) ?_
        refine pG_getR (ci := 4) (f := 4) (b := 195) rfl rfl rfl (by rfl) (by decide) rfl ?_
        refine pG_many 5 (pc1 := 33) (L1 := [some (.ref 190), some (.ref x1), some (.int x2), some (.int x3), d4, d5, d6, d7]) (st1 := [.int x3, .ref x1, .int x3, .ref x1, .int x3, .ref 195]) (M1 := mjTo Z) (fun _ _ => rfl) ?_
        have hk120 : mjIs x1 211 2 = true := by
          by_cases q9 : mjIs x1 211 2 = true
          · exact q9
          · rw [if_neg q9] at h; cases h
        rw [if_pos hk120] at h
        cases hq121 : f6_deed x1 x3 Z with
        | none => rw [hq121] at h; cases h
        | some v122 =>
          rw [hq121, mjBp_some] at h
          refine pG_callV (k2 := 6) (As := [.ref x1, .int x3]) (rest := [.int x3, .ref x1, .int x3, .ref 195]) rfl rfl rfl rfl rfl (mjRcv_is hk120 (by decide)) (by decide) (by decide) (f6_deed_ok hq121) ?_
          rintro r9 M9 ⟨rfl, rfl⟩
          show pG 94 36 [some (.ref 190), some (.ref x1), some (.int x2), some (.int x3), d4, d5, d6, d7] [.ref v122, .int x3, .ref x1, .int x3, .ref 195] (mjTo Z) _
          have hk124 : mjIs v122 211 0 = true := by
            by_cases q9 : mjIs v122 211 0 = true
            · exact q9
            · rw [if_neg q9] at h; cases h
          rw [if_pos hk124] at h
          refine pG_getI (ci := 0) (f := 3) rfl rfl (Or.inl rfl) hk124 (by decide) ?_
          cases hq125 : f41_earlier x1 x3 (Z.1 v122 3) Z with
          | none => rw [hq125] at h; cases h
          | some v126 =>
            rw [hq125, mjBp_some] at h
            refine pG_callV (k2 := 41) (As := [.ref x1, .int x3, .int (Z.1 v122 3)]) (rest := [.int x3, .ref 195]) rfl rfl rfl rfl rfl (mjRcv_is hk120 (by decide)) (by decide) (by decide) (f41_earlier_ok hq125) ?_
            rintro r9 M9 ⟨rfl, rfl⟩
            show pG 94 42 [some (.ref 190), some (.ref x1), some (.int x2), some (.int x3), d4, d5, d6, d7] [.long v126, .int x3, .ref 195] (mjTo Z) _
            have hk128 : mjIn x3 42 = true := by
              by_cases q9 : mjIn x3 42 = true
              · exact q9
              · rw [if_neg q9] at h; cases h
            rw [if_pos hk128] at h
            refine pG_las rfl (by rfl) hk128 (?_ : pG 94 43 [some (.ref 190), some (.ref x1), some (.int x2), some (.int x3), d4, d5, d6, d7] [] (mjTo (zSl Z 195 (mjIx x3) v126)) _)
            rw [mjLet] at h
            generalize zSl Z 195 (mjIx x3) v126 = Z129 at h ⊢
            refine pG_many 1 (pc1 := 44) (L1 := [some (.ref 190), some (.ref x1), some (.int x2), some (.int x3), d4, d5, d6, d7]) (st1 := [.ref 190]) (M1 := mjTo Z129) (fun _ _ => rfl) ?_
            refine pG_getR (ci := 4) (f := 5) (b := 196) rfl rfl rfl (by rfl) (by decide) rfl ?_
            refine pG_many 5 (pc1 := 52) (L1 := [some (.ref 190), some (.ref x1), some (.int x2), some (.int x3), d4, d5, d6, d7]) (st1 := [.int x3, .ref x1, .int x3, .ref x1, .int x3, .ref 196]) (M1 := mjTo Z129) (fun _ _ => rfl) ?_
            cases hq130 : f6_deed x1 x3 Z129 with
            | none => rw [hq130] at h; cases h
            | some v131 =>
              rw [hq130, mjBp_some] at h
              refine pG_callV (k2 := 6) (As := [.ref x1, .int x3]) (rest := [.int x3, .ref x1, .int x3, .ref 196]) rfl rfl rfl rfl rfl (mjRcv_is hk120 (by decide)) (by decide) (by decide) (f6_deed_ok hq130) ?_
              rintro r9 M9 ⟨rfl, rfl⟩
              show pG 94 55 [some (.ref 190), some (.ref x1), some (.int x2), some (.int x3), d4, d5, d6, d7] [.ref v131, .int x3, .ref x1, .int x3, .ref 196] (mjTo Z129) _
              have hk133 : mjIs v131 211 0 = true := by
                by_cases q9 : mjIs v131 211 0 = true
                · exact q9
                · rw [if_neg q9] at h; cases h
              rw [if_pos hk133] at h
              refine pG_getI (ci := 0) (f := 3) rfl rfl (Or.inl rfl) hk133 (by decide) ?_
              cases hq134 : f42_forcers x1 x3 (Z129.1 v131 3) Z129 with
              | none => rw [hq134] at h; cases h
              | some v135 =>
                rw [hq134, mjBp_some] at h
                refine pG_callV (k2 := 42) (As := [.ref x1, .int x3, .int (Z129.1 v131 3)]) (rest := [.int x3, .ref 196]) rfl rfl rfl rfl rfl (mjRcv_is hk120 (by decide)) (by decide) (by decide) (f42_forcers_ok hq134) ?_
                rintro r9 M9 ⟨rfl, rfl⟩
                show pG 94 61 [some (.ref 190), some (.ref x1), some (.int x2), some (.int x3), d4, d5, d6, d7] [.long v135, .int x3, .ref 196] (mjTo Z129) _
                refine pG_las rfl (by rfl) hk128 (?_ : pG 94 62 [some (.ref 190), some (.ref x1), some (.int x2), some (.int x3), d4, d5, d6, d7] [] (mjTo (zSl Z129 196 (mjIx x3) v135)) _)
                rw [mjLet] at h
                generalize zSl Z129 196 (mjIx x3) v135 = Z137 at h ⊢
                refine pG_many 2 (pc1 := 18) (L1 := [some (.ref 190), some (.ref x1), some (.int x2), some (.int (x3 + 1)), d4, d5, d6, d7]) (st1 := []) (M1 := mjTo Z137) (fun _ _ => rfl) ?_
                exact f96_fewestWaived_h18_ok n x1 x2 (x3 + 1) d4 d5 d6 d7 Z137 v9 Z9 h
def f96_fewestWaived (p0 : Nat) (p1 : Int32) (Z : mjZt) : Option (Int32 × mjZt) :=
  mjBd (f326_fill 197 0 Z) fun _ Z103 =>
  mjBd (f326_fill 198 0 Z103) fun _ Z106 =>
  f96_fewestWaived_h18 mjF p0 p1 0 Z106
theorem f96_fewestWaived_ok {p0 : Nat} {p1 : Int32} {Z : mjZt} {v9 : Int32} {Z9 : mjZt} (h : f96_fewestWaived p0 p1 Z = some (v9, Z9)) : pG 94 0 (mjEnt [.ref 190, .ref p0, .int p1] (mjML 94)) [] (mjTo Z) (fun r M1 => r = some (.int v9) ∧ M1 = mjTo Z9) := by
  unfold f96_fewestWaived at h
  show pG 94 0 [some (.ref 190), some (.ref p0), some (.int p1), none, none, none, none, none] [] (mjTo Z) _
  refine pG_many 1 (pc1 := 1) (L1 := [some (.ref 190), some (.ref p0), some (.int p1), none, none, none, none, none]) (st1 := [.ref 190]) (M1 := mjTo Z) (fun _ _ => rfl) ?_
  refine pG_getR (ci := 4) (f := 6) (b := 197) rfl rfl rfl (by rfl) (by decide) rfl ?_
  refine pG_many 1 (pc1 := 5) (L1 := [some (.ref 190), some (.ref p0), some (.int p1), none, none, none, none, none]) (st1 := [.long 0, .ref 197]) (M1 := mjTo Z) (fun _ _ => rfl) ?_
  cases hq101 : f326_fill 197 0 Z with
  | none => rw [hq101] at h; cases h
  | some w =>
    obtain ⟨v102, Z103⟩ := w
    rw [hq101, mjBd_some] at h
    refine pG_call (k2 := 169) (As := [.ref 197, .long 0]) (rest := []) (fun _ _ => rfl) (by decide) (by decide) (f326_fill_ok hq101) ?_
    rintro r9 M9 ⟨rfl, rfl⟩
    show pG 94 8 [some (.ref 190), some (.ref p0), some (.int p1), none, none, none, none, none] [] (mjTo Z103) _
    refine pG_many 1 (pc1 := 9) (L1 := [some (.ref 190), some (.ref p0), some (.int p1), none, none, none, none, none]) (st1 := [.ref 190]) (M1 := mjTo Z103) (fun _ _ => rfl) ?_
    refine pG_getR (ci := 4) (f := 7) (b := 198) rfl rfl rfl (by rfl) (by decide) rfl ?_
    refine pG_many 1 (pc1 := 13) (L1 := [some (.ref 190), some (.ref p0), some (.int p1), none, none, none, none, none]) (st1 := [.long 0, .ref 198]) (M1 := mjTo Z103) (fun _ _ => rfl) ?_
    cases hq104 : f326_fill 198 0 Z103 with
    | none => rw [hq104] at h; cases h
    | some w =>
      obtain ⟨v105, Z106⟩ := w
      rw [hq104, mjBd_some] at h
      refine pG_call (k2 := 169) (As := [.ref 198, .long 0]) (rest := []) (fun _ _ => rfl) (by decide) (by decide) (f326_fill_ok hq104) ?_
      rintro r9 M9 ⟨rfl, rfl⟩
      show pG 94 16 [some (.ref 190), some (.ref p0), some (.int p1), none, none, none, none, none] [] (mjTo Z106) _
      refine pG_many 2 (pc1 := 18) (L1 := [some (.ref 190), some (.ref p0), some (.int p1), some (.int 0), none, none, none, none]) (st1 := []) (M1 := mjTo Z106) (fun _ _ => rfl) ?_
      exact f96_fewestWaived_h18_ok mjF p0 p1 0 none none none none Z106 v9 Z9 h
def f99_time (a0 : Nat) (Z : mjZt) : Option Int32 :=
  if mjIs a0 211 7 = true then
  mjBp (f5_at (a0 + 3) (Z.1 a0 6) Z) fun v103 =>
  some v103
  else none
theorem f99_time_ok {a0 : Nat} {Z : mjZt} {v9 : Int32} (h : f99_time a0 Z = some v9) : pG 96 0 (mjEnt [.ref a0] (mjML 96)) [] (mjTo Z) (fun r M1 => r = some (.int v9) ∧ M1 = mjTo Z) := by
  unfold f99_time at h
  show pG 96 0 [some (.ref a0)] [] (mjTo Z) _
  refine pG_many 1 (pc1 := 1) (L1 := [some (.ref a0)]) (st1 := [.ref a0]) (M1 := mjTo Z) (fun _ _ => rfl) ?_
  have hk101 : mjIs a0 211 7 = true := by
    by_cases q9 : mjIs a0 211 7 = true
    · exact q9
    · rw [if_neg q9] at h; cases h
  rw [if_pos hk101] at h
  refine pG_getR (ci := 7) (f := 2) (b := a0 + 3) rfl rfl rfl hk101 (by decide) (mjRc7_2 hk101) ?_
  refine pG_many 1 (pc1 := 5) (L1 := [some (.ref a0)]) (st1 := [.ref a0, .ref (a0 + 3)]) (M1 := mjTo Z) (fun _ _ => rfl) ?_
  refine pG_getI (ci := 7) (f := 6) rfl rfl (Or.inl rfl) hk101 (by decide) ?_
  cases hq102 : f5_at (a0 + 3) (Z.1 a0 6) Z with
  | none => rw [hq102] at h; cases h
  | some v103 =>
    rw [hq102, mjBp_some] at h
    refine pG_call (k2 := 5) (As := [.ref (a0 + 3), .int (Z.1 a0 6)]) (rest := []) (fun _ _ => rfl) (by decide) (by decide) (f5_at_ok hq102) ?_
    rintro r9 M9 ⟨rfl, rfl⟩
    show pG 96 11 [some (.ref a0)] [.int v103] (mjTo Z) _
    simp only [Option.some.injEq] at h
    subst h
    exact pG_ret (r := some (.int v103)) rfl ⟨rfl, rfl⟩
def f100_lastTenth_h4 : Nat → Nat → Int32 → Int32 → mjZt → Option Int32
  | 0, _, _, _, _ => none
  | n + 1, x1, x2, x3, Z =>
    if mjIs x1 211 2 = true then
    if mjCmp .ge x3 (Z.1 x1 5) = true then
      some (mjMin x2 9999)
    else
      mjBp (f8_runner x1 x3 Z) fun v104 =>
      if mjIs v104 211 7 = true then
      mjBp (f99_time v104 Z) fun v108 =>
      f100_lastTenth_h4 n x1 (mjMax x2 v108) (x3 + 1) Z
      else none
    else none
theorem f100_lastTenth_h4_ok : ∀ (n : Nat) (x1 : Nat) (x2 : Int32) (x3 : Int32) (d0 : Option Value) (Z : mjZt) (v9 : Int32), f100_lastTenth_h4 n x1 x2 x3 Z = some v9 → pG 97 4 [d0, some (.ref x1), some (.int x2), some (.int x3)] [] (mjTo Z) (fun r M1 => r = some (.int v9) ∧ M1 = mjTo Z)
  | 0, x1, x2, x3, d0, Z, v9, h => by rw [f100_lastTenth_h4] at h; cases h
  | n + 1, x1, x2, x3, d0, Z, v9, h => by
      rw [f100_lastTenth_h4] at h
      refine pG_many 2 (pc1 := 6) (L1 := [d0, some (.ref x1), some (.int x2), some (.int x3)]) (st1 := [.ref x1, .int x3]) (M1 := mjTo Z) (fun _ _ => rfl) ?_
      have hk101 : mjIs x1 211 2 = true := by
        by_cases q9 : mjIs x1 211 2 = true
        · exact q9
        · rw [if_neg q9] at h; cases h
      rw [if_pos hk101] at h
      refine pG_getI (ci := 2) (f := 5) rfl rfl (Or.inl rfl) hk101 (by decide) ?_
      by_cases hc102 : mjCmp .ge x3 (Z.1 x1 5) = true
      · rw [if_pos hc102] at h
        refine pG_cmt (t := 31) rfl rfl hc102 ?_
        refine pG_many 2 (pc1 := 35) (L1 := [d0, some (.ref x1), some (.int x2), some (.int x3)]) (st1 := [.int 9999, .int x2]) (M1 := mjTo Z) (fun _ _ => rfl) ?_
        refine pG_prim (v := .int (mjMin x2 9999)) (fun _ _ => rfl) (by decide) rfl ?_
        simp only [Option.some.injEq] at h
        subst h
        exact pG_ret (r := some (.int (mjMin x2 9999))) rfl ⟨rfl, rfl⟩
      · rw [if_neg hc102] at h
        refine pG_cmf (t := 31) rfl rfl hc102 ?_
        refine pG_many 3 (pc1 := 15) (L1 := [d0, some (.ref x1), some (.int x2), some (.int x3)]) (st1 := [.int x3, .ref x1, .int x2]) (M1 := mjTo Z) (fun _ _ => rfl) ?_
        cases hq103 : f8_runner x1 x3 Z with
        | none => rw [hq103] at h; cases h
        | some v104 =>
          rw [hq103, mjBp_some] at h
          refine pG_callV (k2 := 8) (As := [.ref x1, .int x3]) (rest := [.int x2]) rfl rfl rfl rfl rfl (mjRcv_is hk101 (by decide)) (by decide) (by decide) (f8_runner_ok hq103) ?_
          rintro r9 M9 ⟨rfl, rfl⟩
          show pG 97 18 [d0, some (.ref x1), some (.int x2), some (.int x3)] [.ref v104, .int x2] (mjTo Z) _
          have hk106 : mjIs v104 211 7 = true := by
            by_cases q9 : mjIs v104 211 7 = true
            · exact q9
            · rw [if_neg q9] at h; cases h
          rw [if_pos hk106] at h
          cases hq107 : f99_time v104 Z with
          | none => rw [hq107] at h; cases h
          | some v108 =>
            rw [hq107, mjBp_some] at h
            refine pG_callV (k2 := 96) (As := [.ref v104]) (rest := [.int x2]) rfl rfl rfl rfl rfl (mjRcv_is hk106 (by decide)) (by decide) (by decide) (f99_time_ok hq107) ?_
            rintro r9 M9 ⟨rfl, rfl⟩
            show pG 97 21 [d0, some (.ref x1), some (.int x2), some (.int x3)] [.int v108, .int x2] (mjTo Z) _
            refine pG_prim (v := .int (mjMax x2 v108)) (fun _ _ => rfl) (by decide) rfl ?_
            refine pG_many 3 (pc1 := 4) (L1 := [d0, some (.ref x1), some (.int (mjMax x2 v108)), some (.int (x3 + 1))]) (st1 := []) (M1 := mjTo Z) (fun _ _ => rfl) ?_
            exact f100_lastTenth_h4_ok n x1 (mjMax x2 v108) (x3 + 1) d0 Z v9 h
def f100_lastTenth (p0 : Nat) (Z : mjZt) : Option Int32 :=
  f100_lastTenth_h4 mjF p0 0 0 Z
theorem f100_lastTenth_ok {p0 : Nat} {Z : mjZt} {v9 : Int32} (h : f100_lastTenth p0 Z = some v9) : pG 97 0 (mjEnt [.ref 188, .ref p0] (mjML 97)) [] (mjTo Z) (fun r M1 => r = some (.int v9) ∧ M1 = mjTo Z) := by
  unfold f100_lastTenth at h
  show pG 97 0 [some (.ref 188), some (.ref p0), none, none] [] (mjTo Z) _
  refine pG_many 4 (pc1 := 4) (L1 := [some (.ref 188), some (.ref p0), some (.int 0), some (.int 0)]) (st1 := []) (M1 := mjTo Z) (fun _ _ => rfl) ?_
  exact f100_lastTenth_h4_ok mjF p0 0 0 (some (.ref 188)) Z v9 h
def f103_leadChanges_j61 (R : Nat → Int32 → Int32 → Int32 → Int32 → Int32 → Int32 → mjZt → Option Int32) (x1 : Nat) (x2 : Int32) (x3 : Int32) (x4 : Int32) (x5 : Int32) (x6 : Int32) (x7 : Int32) (s0 : Int32) (Z : mjZt) : Option Int32 :=
  if mjCmp .eq x6 ((-1)) = true then
    R x1 x2 x3 x4 x5 s0 (x7 + 1) Z
  else
    if mjCmp .eq x6 s0 = true then
      R x1 x2 x3 x4 x5 s0 (x7 + 1) Z
    else
      R x1 x2 x3 x4 (x5 + 1) s0 (x7 + 1) Z
theorem f103_leadChanges_j61_ok (R : Nat → Int32 → Int32 → Int32 → Int32 → Int32 → Int32 → mjZt → Option Int32) (hR : ∀ (x1 : Nat) (x2 : Int32) (x3 : Int32) (x4 : Int32) (x5 : Int32) (x6 : Int32) (x7 : Int32) (d0 d8 d9 : Option Value) (Z : mjZt) (v9 : Int32), R x1 x2 x3 x4 x5 x6 x7 Z = some v9 → pG 98 16 [d0, some (.ref x1), some (.int x2), some (.int x3), some (.int x4), some (.int x5), some (.int x6), some (.int x7), d8, d9] [] (mjTo Z) (fun r M1 => r = some (.int v9) ∧ M1 = mjTo Z)) (x1 : Nat) (x2 : Int32) (x3 : Int32) (x4 : Int32) (x5 : Int32) (x6 : Int32) (x7 : Int32) (s0 : Int32) (d0 d8 d9 : Option Value) (Z : mjZt) (v9 : Int32) (h : f103_leadChanges_j61 R x1 x2 x3 x4 x5 x6 x7 s0 Z = some v9) : pG 98 61 [d0, some (.ref x1), some (.int x2), some (.int x3), some (.int x4), some (.int x5), some (.int x6), some (.int x7), d8, d9] [.int s0] (mjTo Z) (fun r M1 => r = some (.int v9) ∧ M1 = mjTo Z) := by
  unfold f103_leadChanges_j61 at h
  refine pG_many 3 (pc1 := 66) (L1 := [d0, some (.ref x1), some (.int x2), some (.int x3), some (.int x4), some (.int x5), some (.int x6), some (.int x7), (mjK1 d8), some (.int s0)]) (st1 := [.int ((-1)), .int x6]) (M1 := mjTo Z) (fun _ _ => rfl) ?_
  by_cases hc122 : mjCmp .eq x6 ((-1)) = true
  · rw [if_pos hc122] at h
    refine pG_cmt (t := 79) rfl rfl hc122 ?_
    refine pG_many 4 (pc1 := 16) (L1 := [d0, some (.ref x1), some (.int x2), some (.int x3), some (.int x4), some (.int x5), some (.int s0), some (.int (x7 + 1)), (mjK1 d8), some (.int s0)]) (st1 := []) (M1 := mjTo Z) (fun _ _ => rfl) ?_
    exact hR x1 x2 x3 x4 x5 s0 (x7 + 1) d0 ((mjK1 d8)) (some (.int s0)) Z v9 h
  · rw [if_neg hc122] at h
    refine pG_cmf (t := 79) rfl rfl hc122 ?_
    refine pG_many 2 (pc1 := 73) (L1 := [d0, some (.ref x1), some (.int x2), some (.int x3), some (.int x4), some (.int x5), some (.int x6), some (.int x7), (mjK1 d8), some (.int s0)]) (st1 := [.int s0, .int x6]) (M1 := mjTo Z) (fun _ _ => rfl) ?_
    by_cases hc123 : mjCmp .eq x6 s0 = true
    · rw [if_pos hc123] at h
      refine pG_cmt (t := 79) rfl rfl hc123 ?_
      refine pG_many 4 (pc1 := 16) (L1 := [d0, some (.ref x1), some (.int x2), some (.int x3), some (.int x4), some (.int x5), some (.int s0), some (.int (x7 + 1)), (mjK1 d8), some (.int s0)]) (st1 := []) (M1 := mjTo Z) (fun _ _ => rfl) ?_
      exact hR x1 x2 x3 x4 x5 s0 (x7 + 1) d0 ((mjK1 d8)) (some (.int s0)) Z v9 h
    · rw [if_neg hc123] at h
      refine pG_cmf (t := 79) rfl rfl hc123 ?_
      refine pG_many 5 (pc1 := 16) (L1 := [d0, some (.ref x1), some (.int x2), some (.int x3), some (.int x4), some (.int (x5 + 1)), some (.int s0), some (.int (x7 + 1)), (mjK1 d8), some (.int s0)]) (st1 := []) (M1 := mjTo Z) (fun _ _ => rfl) ?_
      exact hR x1 x2 x3 x4 (x5 + 1) s0 (x7 + 1) d0 ((mjK1 d8)) (some (.int s0)) Z v9 h
def f103_leadChanges_h16 : Nat → Nat → Int32 → Int32 → Int32 → Int32 → Int32 → Int32 → mjZt → Option Int32
  | 0, _, _, _, _, _, _, _, _ => none
  | n + 1, x1, x2, x3, x4, x5, x6, x7, Z =>
    if mjCmp .gt x7 x4 = true then
      some x5
    else
      if mjIs x1 211 2 = true then
      mjBp (f8_runner x1 x2 Z) fun v107 =>
      if mjIs v107 211 7 = true then
      mjBp (f73_whereAt v107 x7 Z) fun v111 =>
      mjBp (f8_runner x1 x3 Z) fun v114 =>
      if mjIs v114 211 7 = true then
      mjBp (f73_whereAt v114 x7 Z) fun v118 =>
      if mjCmp .eq (v111 - v118) 0 = true then
        f103_leadChanges_h16 n x1 x2 x3 x4 x5 x6 (x7 + 1) Z
      else
        if mjCmp .le (v111 - v118) 0 = true then
          f103_leadChanges_j61 (f103_leadChanges_h16 n) x1 x2 x3 x4 x5 x6 x7 x3 Z
        else
          f103_leadChanges_j61 (f103_leadChanges_h16 n) x1 x2 x3 x4 x5 x6 x7 x2 Z
      else none
      else none
      else none
theorem f103_leadChanges_h16_ok : ∀ (n : Nat) (x1 : Nat) (x2 : Int32) (x3 : Int32) (x4 : Int32) (x5 : Int32) (x6 : Int32) (x7 : Int32) (d0 d8 d9 : Option Value) (Z : mjZt) (v9 : Int32), f103_leadChanges_h16 n x1 x2 x3 x4 x5 x6 x7 Z = some v9 → pG 98 16 [d0, some (.ref x1), some (.int x2), some (.int x3), some (.int x4), some (.int x5), some (.int x6), some (.int x7), d8, d9] [] (mjTo Z) (fun r M1 => r = some (.int v9) ∧ M1 = mjTo Z)
  | 0, x1, x2, x3, x4, x5, x6, x7, d0, d8, d9, Z, v9, h => by rw [f103_leadChanges_h16] at h; cases h
  | n + 1, x1, x2, x3, x4, x5, x6, x7, d0, d8, d9, Z, v9, h => by
      rw [f103_leadChanges_h16] at h
      refine pG_many 2 (pc1 := 20) (L1 := [d0, some (.ref x1), some (.int x2), some (.int x3), some (.int x4), some (.int x5), some (.int x6), some (.int x7), d8, d9]) (st1 := [.int x4, .int x7]) (M1 := mjTo Z) (fun _ _ => rfl) ?_
      by_cases hc104 : mjCmp .gt x7 x4 = true
      · rw [if_pos hc104] at h
        refine pG_cmt (t := 89) rfl rfl hc104 ?_
        refine pG_many 1 (pc1 := 91) (L1 := [d0, some (.ref x1), some (.int x2), some (.int x3), some (.int x4), some (.int x5), some (.int x6), some (.int x7), d8, d9]) (st1 := [.int x5]) (M1 := mjTo Z) (fun _ _ => rfl) ?_
        simp only [Option.some.injEq] at h
        subst h
        exact pG_ret (r := some (.int x5)) rfl ⟨rfl, rfl⟩
      · rw [if_neg hc104] at h
        refine pG_cmf (t := 89) rfl rfl hc104 ?_
        refine pG_many 2 (pc1 := 25) (L1 := [d0, some (.ref x1), some (.int x2), some (.int x3), some (.int x4), some (.int x5), some (.int x6), some (.int x7), d8, d9]) (st1 := [.int x2, .ref x1]) (M1 := mjTo Z) (fun _ _ => rfl) ?_
        have hk105 : mjIs x1 211 2 = true := by
          by_cases q9 : mjIs x1 211 2 = true
          · exact q9
          · rw [if_neg q9] at h; cases h
        rw [if_pos hk105] at h
        cases hq106 : f8_runner x1 x2 Z with
        | none => rw [hq106] at h; cases h
        | some v107 =>
          rw [hq106, mjBp_some] at h
          refine pG_callV (k2 := 8) (As := [.ref x1, .int x2]) (rest := []) rfl rfl rfl rfl rfl (mjRcv_is hk105 (by decide)) (by decide) (by decide) (f8_runner_ok hq106) ?_
          rintro r9 M9 ⟨rfl, rfl⟩
          show pG 98 28 [d0, some (.ref x1), some (.int x2), some (.int x3), some (.int x4), some (.int x5), some (.int x6), some (.int x7), d8, d9] [.ref v107] (mjTo Z) _
          refine pG_many 1 (pc1 := 30) (L1 := [d0, some (.ref x1), some (.int x2), some (.int x3), some (.int x4), some (.int x5), some (.int x6), some (.int x7), d8, d9]) (st1 := [.int x7, .ref v107]) (M1 := mjTo Z) (fun _ _ => rfl) ?_
          have hk109 : mjIs v107 211 7 = true := by
            by_cases q9 : mjIs v107 211 7 = true
            · exact q9
            · rw [if_neg q9] at h; cases h
          rw [if_pos hk109] at h
          cases hq110 : f73_whereAt v107 x7 Z with
          | none => rw [hq110] at h; cases h
          | some v111 =>
            rw [hq110, mjBp_some] at h
            refine pG_callV (k2 := 72) (As := [.ref v107, .int x7]) (rest := []) rfl rfl rfl rfl rfl (mjRcv_is hk109 (by decide)) (by decide) (by decide) (f73_whereAt_ok hq110) ?_
            rintro r9 M9 ⟨rfl, rfl⟩
            show pG 98 33 [d0, some (.ref x1), some (.int x2), some (.int x3), some (.int x4), some (.int x5), some (.int x6), some (.int x7), d8, d9] [.int v111] (mjTo Z) _
            refine pG_many 2 (pc1 := 35) (L1 := [d0, some (.ref x1), some (.int x2), some (.int x3), some (.int x4), some (.int x5), some (.int x6), some (.int x7), d8, d9]) (st1 := [.int x3, .ref x1, .int v111]) (M1 := mjTo Z) (fun _ _ => rfl) ?_
            cases hq113 : f8_runner x1 x3 Z with
            | none => rw [hq113] at h; cases h
            | some v114 =>
              rw [hq113, mjBp_some] at h
              refine pG_callV (k2 := 8) (As := [.ref x1, .int x3]) (rest := [.int v111]) rfl rfl rfl rfl rfl (mjRcv_is hk105 (by decide)) (by decide) (by decide) (f8_runner_ok hq113) ?_
              rintro r9 M9 ⟨rfl, rfl⟩
              show pG 98 38 [d0, some (.ref x1), some (.int x2), some (.int x3), some (.int x4), some (.int x5), some (.int x6), some (.int x7), d8, d9] [.ref v114, .int v111] (mjTo Z) _
              refine pG_many 1 (pc1 := 40) (L1 := [d0, some (.ref x1), some (.int x2), some (.int x3), some (.int x4), some (.int x5), some (.int x6), some (.int x7), d8, d9]) (st1 := [.int x7, .ref v114, .int v111]) (M1 := mjTo Z) (fun _ _ => rfl) ?_
              have hk116 : mjIs v114 211 7 = true := by
                by_cases q9 : mjIs v114 211 7 = true
                · exact q9
                · rw [if_neg q9] at h; cases h
              rw [if_pos hk116] at h
              cases hq117 : f73_whereAt v114 x7 Z with
              | none => rw [hq117] at h; cases h
              | some v118 =>
                rw [hq117, mjBp_some] at h
                refine pG_callV (k2 := 72) (As := [.ref v114, .int x7]) (rest := [.int v111]) rfl rfl rfl rfl rfl (mjRcv_is hk116 (by decide)) (by decide) (by decide) (f73_whereAt_ok hq117) ?_
                rintro r9 M9 ⟨rfl, rfl⟩
                show pG 98 43 [d0, some (.ref x1), some (.int x2), some (.int x3), some (.int x4), some (.int x5), some (.int x6), some (.int x7), d8, d9] [.int v118, .int v111] (mjTo Z) _
                refine pG_many 3 (pc1 := 48) (L1 := [d0, some (.ref x1), some (.int x2), some (.int x3), some (.int x4), some (.int x5), some (.int x6), some (.int x7), some (.int (v111 - v118)), d9]) (st1 := [.int (v111 - v118)]) (M1 := mjTo Z) (fun _ _ => rfl) ?_
                by_cases hc120 : mjCmp .eq (v111 - v118) 0 = true
                · rw [if_pos hc120] at h
                  refine pG_ift (t := 83) rfl rfl hc120 ?_
                  refine pG_many 2 (pc1 := 16) (L1 := [d0, some (.ref x1), some (.int x2), some (.int x3), some (.int x4), some (.int x5), some (.int x6), some (.int (x7 + 1)), some (.int (v111 - v118)), d9]) (st1 := []) (M1 := mjTo Z) (fun _ _ => rfl) ?_
                  exact f103_leadChanges_h16_ok n x1 x2 x3 x4 x5 x6 (x7 + 1) d0 (some (.int (v111 - v118))) d9 Z v9 h
                · rw [if_neg hc120] at h
                  refine pG_iff (t := 83) rfl rfl hc120 ?_
                  refine pG_many 1 (pc1 := 53) (L1 := [d0, some (.ref x1), some (.int x2), some (.int x3), some (.int x4), some (.int x5), some (.int x6), some (.int x7), some (.int (v111 - v118)), d9]) (st1 := [.int (v111 - v118)]) (M1 := mjTo Z) (fun _ _ => rfl) ?_
                  by_cases hc121 : mjCmp .le (v111 - v118) 0 = true
                  · rw [if_pos hc121] at h
                    refine pG_ift (t := 60) rfl rfl hc121 ?_
                    refine pG_many 1 (pc1 := 61) (L1 := [d0, some (.ref x1), some (.int x2), some (.int x3), some (.int x4), some (.int x5), some (.int x6), some (.int x7), some (.int (v111 - v118)), d9]) (st1 := [.int x3]) (M1 := mjTo Z) (fun _ _ => rfl) ?_
                    exact f103_leadChanges_j61_ok (f103_leadChanges_h16 n) (fun x1 x2 x3 x4 x5 x6 x7 d0 d8 d9 Z v9 h => f103_leadChanges_h16_ok n x1 x2 x3 x4 x5 x6 x7 d0 d8 d9 Z v9 h) x1 x2 x3 x4 x5 x6 x7 x3 d0 (some (.int (v111 - v118))) d9 Z v9 h
                  · rw [if_neg hc121] at h
                    refine pG_iff (t := 60) rfl rfl hc121 ?_
                    refine pG_many 2 (pc1 := 61) (L1 := [d0, some (.ref x1), some (.int x2), some (.int x3), some (.int x4), some (.int x5), some (.int x6), some (.int x7), some (.int (v111 - v118)), d9]) (st1 := [.int x2]) (M1 := mjTo Z) (fun _ _ => rfl) ?_
                    exact f103_leadChanges_j61_ok (f103_leadChanges_h16 n) (fun x1 x2 x3 x4 x5 x6 x7 d0 d8 d9 Z v9 h => f103_leadChanges_h16_ok n x1 x2 x3 x4 x5 x6 x7 d0 d8 d9 Z v9 h) x1 x2 x3 x4 x5 x6 x7 x2 d0 (some (.int (v111 - v118))) d9 Z v9 h
def f103_leadChanges (p0 : Nat) (p1 : Int32) (p2 : Int32) (Z : mjZt) : Option Int32 :=
  mjBp (f100_lastTenth p0 Z) fun v102 =>
  f103_leadChanges_h16 mjF p0 p1 p2 v102 0 ((-1)) 0 Z
theorem f103_leadChanges_ok {p0 : Nat} {p1 : Int32} {p2 : Int32} {Z : mjZt} {v9 : Int32} (h : f103_leadChanges p0 p1 p2 Z = some v9) : pG 98 0 (mjEnt [.ref 188, .ref p0, .int p1, .int p2] (mjML 98)) [] (mjTo Z) (fun r M1 => r = some (.int v9) ∧ M1 = mjTo Z) := by
  unfold f103_leadChanges at h
  show pG 98 0 [some (.ref 188), some (.ref p0), some (.int p1), some (.int p2), none, none, none, none, none, none] [] (mjTo Z) _
  refine pG_many 2 (pc1 := 2) (L1 := [some (.ref 188), some (.ref p0), some (.int p1), some (.int p2), none, none, none, none, none, none]) (st1 := [.ref p0, .ref 188]) (M1 := mjTo Z) (fun _ _ => rfl) ?_
  cases hq101 : f100_lastTenth p0 Z with
  | none => rw [hq101] at h; cases h
  | some v102 =>
    rw [hq101, mjBp_some] at h
    refine pG_callV (k2 := 97) (As := [.ref 188, .ref p0]) (rest := []) rfl rfl rfl rfl rfl (by rfl) (by decide) (by decide) (f100_lastTenth_ok hq101) ?_
    rintro r9 M9 ⟨rfl, rfl⟩
    show pG 98 5 [some (.ref 188), some (.ref p0), some (.int p1), some (.int p2), none, none, none, none, none, none] [.int v102] (mjTo Z) _
    refine pG_many 7 (pc1 := 16) (L1 := [some (.ref 188), some (.ref p0), some (.int p1), some (.int p2), some (.int v102), some (.int 0), some (.int ((-1))), some (.int 0), none, none]) (st1 := []) (M1 := mjTo Z) (fun _ _ => rfl) ?_
    exact f103_leadChanges_h16_ok mjF p0 p1 p2 v102 0 ((-1)) 0 (some (.ref 188)) none none Z v9 h
def f104_arrival_h8 : Nat → Nat → Int32 → Int32 → mjZt → Option Int32
  | 0, _, _, _, _ => none
  | n + 1, x0, x1, x2, Z =>
    if mjIs x0 211 7 = true then
    if mjCmp .gt x2 (Z.1 x0 6) = true then
      some ((-2))
    else
      mjBp (f5_at (x0 + 4) (x2 - 1) Z) fun v105 =>
      mjBp (f5_at (x0 + 4) x2 Z) fun v108 =>
      if mjCmp .le (v108 - v105) 0 = true then
        f104_arrival_h8 n x0 x1 (x2 + 1) Z
      else
        if mjCmp .gt x1 v108 = true then
          f104_arrival_h8 n x0 x1 (x2 + 1) Z
        else
          mjBp (f5_at (x0 + 3) (x2 - 1) Z) fun v116 =>
          mjBp (f5_at (x0 + 1) x2 Z) fun v119 =>
          if ¬ v108 - v105 = 0 then
          some (v116 + (((((x1 - v105) * v119) + (v108 - v105)) - 1) / (v108 - v105)))
          else none
    else none
theorem f104_arrival_h8_ok : ∀ (n : Nat) (x0 : Nat) (x1 : Int32) (x2 : Int32) (d3 d4 : Option Value) (Z : mjZt) (v9 : Int32), f104_arrival_h8 n x0 x1 x2 Z = some v9 → pG 99 8 [some (.ref x0), some (.int x1), some (.int x2), d3, d4] [] (mjTo Z) (fun r M1 => r = some (.int v9) ∧ M1 = mjTo Z)
  | 0, x0, x1, x2, d3, d4, Z, v9, h => by rw [f104_arrival_h8] at h; cases h
  | n + 1, x0, x1, x2, d3, d4, Z, v9, h => by
      rw [f104_arrival_h8] at h
      refine pG_many 2 (pc1 := 10) (L1 := [some (.ref x0), some (.int x1), some (.int x2), d3, d4]) (st1 := [.ref x0, .int x2]) (M1 := mjTo Z) (fun _ _ => rfl) ?_
      have hk102 : mjIs x0 211 7 = true := by
        by_cases q9 : mjIs x0 211 7 = true
        · exact q9
        · rw [if_neg q9] at h; cases h
      rw [if_pos hk102] at h
      refine pG_getI (ci := 7) (f := 6) rfl rfl (Or.inl rfl) hk102 (by decide) ?_
      by_cases hc103 : mjCmp .gt x2 (Z.1 x0 6) = true
      · rw [if_pos hc103] at h
        refine pG_cmt (t := 94) rfl rfl hc103 ?_
        refine pG_many 1 (pc1 := 96) (L1 := [some (.ref x0), some (.int x1), some (.int x2), d3, d4]) (st1 := [.int ((-2))]) (M1 := mjTo Z) (fun _ _ => rfl) ?_
        simp only [Option.some.injEq] at h
        subst h
        exact pG_ret (r := some (.int ((-2)))) rfl ⟨rfl, rfl⟩
      · rw [if_neg hc103] at h
        refine pG_cmf (t := 94) rfl rfl hc103 ?_
        refine pG_many 1 (pc1 := 17) (L1 := [some (.ref x0), some (.int x1), some (.int x2), d3, d4]) (st1 := [.ref x0]) (M1 := mjTo Z) (fun _ _ => rfl) ?_
        refine pG_getR (ci := 7) (f := 3) (b := x0 + 4) rfl rfl rfl hk102 (by decide) (mjRc7_3 hk102) ?_
        refine pG_many 3 (pc1 := 23) (L1 := [some (.ref x0), some (.int x1), some (.int x2), d3, d4]) (st1 := [.int (x2 - 1), .ref (x0 + 4)]) (M1 := mjTo Z) (fun _ _ => rfl) ?_
        cases hq104 : f5_at (x0 + 4) (x2 - 1) Z with
        | none => rw [hq104] at h; cases h
        | some v105 =>
          rw [hq104, mjBp_some] at h
          refine pG_call (k2 := 5) (As := [.ref (x0 + 4), .int (x2 - 1)]) (rest := []) (fun _ _ => rfl) (by decide) (by decide) (f5_at_ok hq104) ?_
          rintro r9 M9 ⟨rfl, rfl⟩
          show pG 99 26 [some (.ref x0), some (.int x1), some (.int x2), d3, d4] [.int v105] (mjTo Z) _
          refine pG_many 2 (pc1 := 28) (L1 := [some (.ref x0), some (.int x1), some (.int x2), some (.int v105), d4]) (st1 := [.ref x0]) (M1 := mjTo Z) (fun _ _ => rfl) ?_
          refine pG_getR (ci := 7) (f := 3) (b := x0 + 4) rfl rfl rfl hk102 (by decide) (mjRc7_3 hk102) ?_
          refine pG_many 1 (pc1 := 32) (L1 := [some (.ref x0), some (.int x1), some (.int x2), some (.int v105), d4]) (st1 := [.int x2, .ref (x0 + 4)]) (M1 := mjTo Z) (fun _ _ => rfl) ?_
          cases hq107 : f5_at (x0 + 4) x2 Z with
          | none => rw [hq107] at h; cases h
          | some v108 =>
            rw [hq107, mjBp_some] at h
            refine pG_call (k2 := 5) (As := [.ref (x0 + 4), .int x2]) (rest := []) (fun _ _ => rfl) (by decide) (by decide) (f5_at_ok hq107) ?_
            rintro r9 M9 ⟨rfl, rfl⟩
            show pG 99 35 [some (.ref x0), some (.int x1), some (.int x2), some (.int v105), d4] [.int v108] (mjTo Z) _
            refine pG_many 4 (pc1 := 41) (L1 := [some (.ref x0), some (.int x1), some (.int x2), some (.int v105), some (.int (v108 - v105))]) (st1 := [.int (v108 - v105)]) (M1 := mjTo Z) (fun _ _ => rfl) ?_
            by_cases hc110 : mjCmp .le (v108 - v105) 0 = true
            · rw [if_pos hc110] at h
              refine pG_ift (t := 88) rfl rfl hc110 ?_
              refine pG_many 2 (pc1 := 8) (L1 := [some (.ref x0), some (.int x1), some (.int (x2 + 1)), some (.int v105), some (.int (v108 - v105))]) (st1 := []) (M1 := mjTo Z) (fun _ _ => rfl) ?_
              exact f104_arrival_h8_ok n x0 x1 (x2 + 1) (some (.int v105)) (some (.int (v108 - v105))) Z v9 h
            · rw [if_neg hc110] at h
              refine pG_iff (t := 88) rfl rfl hc110 ?_
              refine pG_many 2 (pc1 := 46) (L1 := [some (.ref x0), some (.int x1), some (.int x2), some (.int v105), some (.int (v108 - v105))]) (st1 := [.ref x0, .int x1]) (M1 := mjTo Z) (fun _ _ => rfl) ?_
              refine pG_getR (ci := 7) (f := 3) (b := x0 + 4) rfl rfl rfl hk102 (by decide) (mjRc7_3 hk102) ?_
              refine pG_many 1 (pc1 := 50) (L1 := [some (.ref x0), some (.int x1), some (.int x2), some (.int v105), some (.int (v108 - v105))]) (st1 := [.int x2, .ref (x0 + 4), .int x1]) (M1 := mjTo Z) (fun _ _ => rfl) ?_
              refine pG_call (k2 := 5) (As := [.ref (x0 + 4), .int x2]) (rest := [.int x1]) (fun _ _ => rfl) (by decide) (by decide) (f5_at_ok hq107) ?_
              rintro r9 M9 ⟨rfl, rfl⟩
              show pG 99 53 [some (.ref x0), some (.int x1), some (.int x2), some (.int v105), some (.int (v108 - v105))] [.int v108, .int x1] (mjTo Z) _
              by_cases hc114 : mjCmp .gt x1 v108 = true
              · rw [if_pos hc114] at h
                refine pG_cmt (t := 88) rfl rfl hc114 ?_
                refine pG_many 2 (pc1 := 8) (L1 := [some (.ref x0), some (.int x1), some (.int (x2 + 1)), some (.int v105), some (.int (v108 - v105))]) (st1 := []) (M1 := mjTo Z) (fun _ _ => rfl) ?_
                exact f104_arrival_h8_ok n x0 x1 (x2 + 1) (some (.int v105)) (some (.int (v108 - v105))) Z v9 h
              · rw [if_neg hc114] at h
                refine pG_cmf (t := 88) rfl rfl hc114 ?_
                refine pG_many 1 (pc1 := 57) (L1 := [some (.ref x0), some (.int x1), some (.int x2), some (.int v105), some (.int (v108 - v105))]) (st1 := [.ref x0]) (M1 := mjTo Z) (fun _ _ => rfl) ?_
                refine pG_getR (ci := 7) (f := 2) (b := x0 + 3) rfl rfl rfl hk102 (by decide) (mjRc7_2 hk102) ?_
                refine pG_many 3 (pc1 := 63) (L1 := [some (.ref x0), some (.int x1), some (.int x2), some (.int v105), some (.int (v108 - v105))]) (st1 := [.int (x2 - 1), .ref (x0 + 3)]) (M1 := mjTo Z) (fun _ _ => rfl) ?_
                cases hq115 : f5_at (x0 + 3) (x2 - 1) Z with
                | none => rw [hq115] at h; cases h
                | some v116 =>
                  rw [hq115, mjBp_some] at h
                  refine pG_call (k2 := 5) (As := [.ref (x0 + 3), .int (x2 - 1)]) (rest := []) (fun _ _ => rfl) (by decide) (by decide) (f5_at_ok hq115) ?_
                  rintro r9 M9 ⟨rfl, rfl⟩
                  show pG 99 66 [some (.ref x0), some (.int x1), some (.int x2), some (.int v105), some (.int (v108 - v105))] [.int v116] (mjTo Z) _
                  refine pG_many 4 (pc1 := 70) (L1 := [some (.ref x0), some (.int x1), some (.int x2), some (.int v105), some (.int (v108 - v105))]) (st1 := [.ref x0, .int (x1 - v105), .int v116]) (M1 := mjTo Z) (fun _ _ => rfl) ?_
                  refine pG_getR (ci := 7) (f := 0) (b := x0 + 1) rfl rfl rfl hk102 (by decide) (mjRc7_0 hk102) ?_
                  refine pG_many 1 (pc1 := 74) (L1 := [some (.ref x0), some (.int x1), some (.int x2), some (.int v105), some (.int (v108 - v105))]) (st1 := [.int x2, .ref (x0 + 1), .int (x1 - v105), .int v116]) (M1 := mjTo Z) (fun _ _ => rfl) ?_
                  cases hq118 : f5_at (x0 + 1) x2 Z with
                  | none => rw [hq118] at h; cases h
                  | some v119 =>
                    rw [hq118, mjBp_some] at h
                    refine pG_call (k2 := 5) (As := [.ref (x0 + 1), .int x2]) (rest := [.int (x1 - v105), .int v116]) (fun _ _ => rfl) (by decide) (by decide) (f5_at_ok hq118) ?_
                    rintro r9 M9 ⟨rfl, rfl⟩
                    show pG 99 77 [some (.ref x0), some (.int x1), some (.int x2), some (.int v105), some (.int (v108 - v105))] [.int v119, .int (x1 - v105), .int v116] (mjTo Z) _
                    refine pG_many 6 (pc1 := 85) (L1 := [some (.ref x0), some (.int x1), some (.int x2), some (.int v105), some (.int (v108 - v105))]) (st1 := [.int (v108 - v105), .int ((((x1 - v105) * v119) + (v108 - v105)) - 1), .int v116]) (M1 := mjTo Z) (fun _ _ => rfl) ?_
                    have hk121 : ¬ v108 - v105 = 0 := by
                      by_cases q9 : ¬ v108 - v105 = 0
                      · exact q9
                      · rw [if_neg q9] at h; cases h
                    rw [if_pos hk121] at h
                    refine pG_div rfl hk121 ?_
                    refine pG_many 1 (pc1 := 87) (L1 := [some (.ref x0), some (.int x1), some (.int x2), some (.int v105), some (.int (v108 - v105))]) (st1 := [.int (v116 + (((((x1 - v105) * v119) + (v108 - v105)) - 1) / (v108 - v105)))]) (M1 := mjTo Z) (fun _ _ => rfl) ?_
                    simp only [Option.some.injEq] at h
                    subst h
                    exact pG_ret (r := some (.int (v116 + (((((x1 - v105) * v119) + (v108 - v105)) - 1) / (v108 - v105))))) rfl ⟨rfl, rfl⟩
def f104_arrival (a0 : Nat) (p0 : Int32) (Z : mjZt) : Option Int32 :=
  if mjCmp .gt p0 0 = true then
    f104_arrival_h8 mjF a0 p0 1 Z
  else
    some 0
theorem f104_arrival_ok {a0 : Nat} {p0 : Int32} {Z : mjZt} {v9 : Int32} (h : f104_arrival a0 p0 Z = some v9) : pG 99 0 (mjEnt [.ref a0, .int p0] (mjML 99)) [] (mjTo Z) (fun r M1 => r = some (.int v9) ∧ M1 = mjTo Z) := by
  unfold f104_arrival at h
  show pG 99 0 [some (.ref a0), some (.int p0), none, none, none] [] (mjTo Z) _
  refine pG_many 1 (pc1 := 1) (L1 := [some (.ref a0), some (.int p0), none, none, none]) (st1 := [.int p0]) (M1 := mjTo Z) (fun _ _ => rfl) ?_
  by_cases hc101 : mjCmp .gt p0 0 = true
  · rw [if_pos hc101] at h
    refine pG_ift (t := 6) rfl rfl hc101 ?_
    refine pG_many 2 (pc1 := 8) (L1 := [some (.ref a0), some (.int p0), some (.int 1), none, none]) (st1 := []) (M1 := mjTo Z) (fun _ _ => rfl) ?_
    exact f104_arrival_h8_ok mjF a0 p0 1 none none Z v9 h
  · rw [if_neg hc101] at h
    refine pG_iff (t := 6) rfl rfl hc101 ?_
    refine pG_many 1 (pc1 := 5) (L1 := [some (.ref a0), some (.int p0), none, none, none]) (st1 := [.int 0]) (M1 := mjTo Z) (fun _ _ => rfl) ?_
    simp only [Option.some.injEq] at h
    subst h
    exact pG_ret (r := some (.int 0)) rfl ⟨rfl, rfl⟩
def f108_tenthsOf (a0 : Nat) (p0 : Int32) (Z : mjZt) : Option Int32 :=
  if mjIs a0 211 7 = true then
  mjBp (f5_at (a0 + 1) p0 Z) fun v103 =>
  some v103
  else none
theorem f108_tenthsOf_ok {a0 : Nat} {p0 : Int32} {Z : mjZt} {v9 : Int32} (h : f108_tenthsOf a0 p0 Z = some v9) : pG 100 0 (mjEnt [.ref a0, .int p0] (mjML 100)) [] (mjTo Z) (fun r M1 => r = some (.int v9) ∧ M1 = mjTo Z) := by
  unfold f108_tenthsOf at h
  show pG 100 0 [some (.ref a0), some (.int p0)] [] (mjTo Z) _
  refine pG_many 1 (pc1 := 1) (L1 := [some (.ref a0), some (.int p0)]) (st1 := [.ref a0]) (M1 := mjTo Z) (fun _ _ => rfl) ?_
  have hk101 : mjIs a0 211 7 = true := by
    by_cases q9 : mjIs a0 211 7 = true
    · exact q9
    · rw [if_neg q9] at h; cases h
  rw [if_pos hk101] at h
  refine pG_getR (ci := 7) (f := 0) (b := a0 + 1) rfl rfl rfl hk101 (by decide) (mjRc7_0 hk101) ?_
  refine pG_many 1 (pc1 := 5) (L1 := [some (.ref a0), some (.int p0)]) (st1 := [.int p0, .ref (a0 + 1)]) (M1 := mjTo Z) (fun _ _ => rfl) ?_
  cases hq102 : f5_at (a0 + 1) p0 Z with
  | none => rw [hq102] at h; cases h
  | some v103 =>
    rw [hq102, mjBp_some] at h
    refine pG_call (k2 := 5) (As := [.ref (a0 + 1), .int p0]) (rest := []) (fun _ _ => rfl) (by decide) (by decide) (f5_at_ok hq102) ?_
    rintro r9 M9 ⟨rfl, rfl⟩
    show pG 100 8 [some (.ref a0), some (.int p0)] [.int v103] (mjTo Z) _
    simp only [Option.some.injEq] at h
    subst h
    exact pG_ret (r := some (.int v103)) rfl ⟨rfl, rfl⟩
def f113_open (p0 : Nat) (p1 : Int32) (Z : mjZt) : Option (Unit × mjZt) :=
  mjLet (zTx Z p0) fun Z101 =>
  if mjIs Z101.2.2.2 211 13 = true then
  mjLet (zSi Z101 183 1 (mjMin p1 (Int32.ofNat (mjLay Z101.2.2.2).2))) fun Z103 =>
  mjLet (zSi Z103 183 2 0) fun Z104 =>
  mjBd (f68_advance  Z104) fun _ Z107 =>
  some ((), Z107)
  else none
theorem f113_open_ok {p0 : Nat} {p1 : Int32} {Z : mjZt} {v9 : Unit} {Z9 : mjZt} (h : f113_open p0 p1 Z = some (v9, Z9)) : pG 103 0 (mjEnt [.ref 183, .ref p0, .int p1] (mjML 103)) [] (mjTo Z) (fun r M1 => r = none ∧ M1 = mjTo Z9) := by
  unfold f113_open at h
  show pG 103 0 [some (.ref 183), some (.ref p0), some (.int p1)] [] (mjTo Z) _
  refine pG_many 2 (pc1 := 2) (L1 := [some (.ref 183), some (.ref p0), some (.int p1)]) (st1 := [.ref p0, .ref 183]) (M1 := mjTo Z) (fun _ _ => rfl) ?_
  refine pG_putT rfl rfl ?_
  rw [mjLet] at h
  generalize zTx Z p0 = Z101 at h ⊢
  refine pG_many 3 (pc1 := 8) (L1 := [some (.ref 183), some (.ref p0), some (.int p1)]) (st1 := [.ref 183, .int p1, .ref 183]) (M1 := mjTo Z101) (fun _ _ => rfl) ?_
  refine pG_getR (ci := 9) (f := 0) (b := Z101.2.2.2) rfl rfl rfl (by rfl) (by decide) rfl ?_
  have hk102 : mjIs Z101.2.2.2 211 13 = true := by
    by_cases q9 : mjIs Z101.2.2.2 211 13 = true
    · exact q9
    · rw [if_neg q9] at h; cases h
  rw [if_pos hk102] at h
  refine pG_lenS (c := 13) rfl (by decide) (by decide) hk102 ?_
  refine pG_prim (v := .int (mjMin p1 (Int32.ofNat (mjLay Z101.2.2.2).2))) (fun _ _ => rfl) (by decide) rfl ?_
  refine pG_putI (ci := 9) (f := 1) rfl rfl rfl rfl (by rfl) (by decide) ?_
  rw [mjLet] at h
  generalize zSi Z101 183 1 (mjMin p1 (Int32.ofNat (mjLay Z101.2.2.2).2)) = Z103 at h ⊢
  refine pG_many 2 (pc1 := 20) (L1 := [some (.ref 183), some (.ref p0), some (.int p1)]) (st1 := [.int 0, .ref 183]) (M1 := mjTo Z103) (fun _ _ => rfl) ?_
  refine pG_putI (ci := 9) (f := 2) rfl rfl rfl rfl (by rfl) (by decide) ?_
  rw [mjLet] at h
  generalize zSi Z103 183 2 0 = Z104 at h ⊢
  refine pG_many 1 (pc1 := 24) (L1 := [some (.ref 183), some (.ref p0), some (.int p1)]) (st1 := [.ref 183]) (M1 := mjTo Z104) (fun _ _ => rfl) ?_
  cases hq105 : f68_advance  Z104 with
  | none => rw [hq105] at h; cases h
  | some w =>
    obtain ⟨v106, Z107⟩ := w
    rw [hq105, mjBd_some] at h
    refine pG_callV (k2 := 68) (As := [.ref 183]) (rest := []) rfl rfl rfl rfl rfl (by rfl) (by decide) (by decide) (f68_advance_ok hq105) ?_
    rintro r9 M9 ⟨rfl, rfl⟩
    show pG 103 27 [some (.ref 183), some (.ref p0), some (.int p1)] [] (mjTo Z107) _
    simp only [Option.some.injEq, Prod.mk.injEq] at h
    obtain ⟨-, rfl⟩ := h
    exact pG_ret (r := none) rfl ⟨rfl, rfl⟩
def f114_fail (p0 : Int32) (Z : mjZt) : Option (Int32 × mjZt) :=
  if mjCmp .ne (Z.1 183 3) 3 = true then
    mjLet (zSi Z 182 5 p0) fun Z102 =>
    mjLet (zSi Z102 182 6 (Z102.1 183 4)) fun Z103 =>
    some (0, Z103)
  else
    mjLet (zSi Z 182 5 1) fun Z104 =>
    mjLet (zSi Z104 182 6 (Z104.1 183 4)) fun Z105 =>
    some (0, Z105)
theorem f114_fail_ok {p0 : Int32} {Z : mjZt} {v9 : Int32} {Z9 : mjZt} (h : f114_fail p0 Z = some (v9, Z9)) : pG 104 0 (mjEnt [.ref 182, .int p0] (mjML 104)) [] (mjTo Z) (fun r M1 => r = some (.int v9) ∧ M1 = mjTo Z9) := by
  unfold f114_fail at h
  show pG 104 0 [some (.ref 182), some (.int p0)] [] (mjTo Z) _
  refine pG_many 2 (pc1 := 2) (L1 := [some (.ref 182), some (.int p0)]) (st1 := [.ref 182, .ref 182]) (M1 := mjTo Z) (fun _ _ => rfl) ?_
  refine pG_getR (ci := 6) (f := 0) (b := 183) rfl rfl rfl (by rfl) (by decide) rfl ?_
  refine pG_getI (ci := 9) (f := 3) rfl rfl (Or.inl rfl) (by rfl) (by decide) ?_
  refine pG_many 1 (pc1 := 9) (L1 := [some (.ref 182), some (.int p0)]) (st1 := [.int 3, .int (Z.1 183 3), .ref 182]) (M1 := mjTo Z) (fun _ _ => rfl) ?_
  by_cases hc101 : mjCmp .ne (Z.1 183 3) 3 = true
  · rw [if_pos hc101] at h
    refine pG_cmt (t := 16) rfl rfl hc101 ?_
    refine pG_many 1 (pc1 := 17) (L1 := [some (.ref 182), some (.int p0)]) (st1 := [.int p0, .ref 182]) (M1 := mjTo Z) (fun _ _ => rfl) ?_
    refine pG_putI (ci := 6) (f := 5) rfl rfl rfl rfl (by rfl) (by decide) ?_
    rw [mjLet] at h
    generalize zSi Z 182 5 p0 = Z102 at h ⊢
    refine pG_many 2 (pc1 := 22) (L1 := [some (.ref 182), some (.int p0)]) (st1 := [.ref 182, .ref 182]) (M1 := mjTo Z102) (fun _ _ => rfl) ?_
    refine pG_getR (ci := 6) (f := 0) (b := 183) rfl rfl rfl (by rfl) (by decide) rfl ?_
    refine pG_getI (ci := 9) (f := 4) rfl rfl (Or.inl rfl) (by rfl) (by decide) ?_
    refine pG_putI (ci := 6) (f := 6) rfl rfl rfl rfl (by rfl) (by decide) ?_
    rw [mjLet] at h
    generalize zSi Z102 182 6 (Z102.1 183 4) = Z103 at h ⊢
    refine pG_many 1 (pc1 := 32) (L1 := [some (.ref 182), some (.int p0)]) (st1 := [.int 0]) (M1 := mjTo Z103) (fun _ _ => rfl) ?_
    simp only [Option.some.injEq, Prod.mk.injEq] at h
    obtain ⟨rfl, rfl⟩ := h
    exact pG_ret (r := some (.int 0)) rfl ⟨rfl, rfl⟩
  · rw [if_neg hc101] at h
    refine pG_cmf (t := 16) rfl rfl hc101 ?_
    refine pG_many 2 (pc1 := 17) (L1 := [some (.ref 182), some (.int p0)]) (st1 := [.int 1, .ref 182]) (M1 := mjTo Z) (fun _ _ => rfl) ?_
    refine pG_putI (ci := 6) (f := 5) rfl rfl rfl rfl (by rfl) (by decide) ?_
    rw [mjLet] at h
    generalize zSi Z 182 5 1 = Z104 at h ⊢
    refine pG_many 2 (pc1 := 22) (L1 := [some (.ref 182), some (.int p0)]) (st1 := [.ref 182, .ref 182]) (M1 := mjTo Z104) (fun _ _ => rfl) ?_
    refine pG_getR (ci := 6) (f := 0) (b := 183) rfl rfl rfl (by rfl) (by decide) rfl ?_
    refine pG_getI (ci := 9) (f := 4) rfl rfl (Or.inl rfl) (by rfl) (by decide) ?_
    refine pG_putI (ci := 6) (f := 6) rfl rfl rfl rfl (by rfl) (by decide) ?_
    rw [mjLet] at h
    generalize zSi Z104 182 6 (Z104.1 183 4) = Z105 at h ⊢
    refine pG_many 1 (pc1 := 32) (L1 := [some (.ref 182), some (.int p0)]) (st1 := [.int 0]) (M1 := mjTo Z105) (fun _ _ => rfl) ?_
    simp only [Option.some.injEq, Prod.mk.injEq] at h
    obtain ⟨rfl, rfl⟩ := h
    exact pG_ret (r := some (.int 0)) rfl ⟨rfl, rfl⟩
def f115_takeWord (p0 : Nat) (p1 : Int32) (Z : mjZt) : Option (Int32 × mjZt) :=
  mjBp (f51_indexIn p0 Z) fun v102 =>
  if mjCmp .eq v102 p1 = true then
    mjBd (f68_advance  Z) fun _ Z107 =>
    some (1, Z107)
  else
    mjBd (f114_fail 2 Z) fun v109 Z110 =>
    if v109 = 0 ∨ v109 = 1 then
    some (v109, Z110)
    else none
theorem f115_takeWord_ok {p0 : Nat} {p1 : Int32} {Z : mjZt} {v9 : Int32} {Z9 : mjZt} (h : f115_takeWord p0 p1 Z = some (v9, Z9)) : pG 105 0 (mjEnt [.ref 182, .ref p0, .int p1] (mjML 105)) [] (mjTo Z) (fun r M1 => r = some (.int v9) ∧ M1 = mjTo Z9) := by
  unfold f115_takeWord at h
  show pG 105 0 [some (.ref 182), some (.ref p0), some (.int p1)] [] (mjTo Z) _
  refine pG_many 1 (pc1 := 1) (L1 := [some (.ref 182), some (.ref p0), some (.int p1)]) (st1 := [.ref 182]) (M1 := mjTo Z) (fun _ _ => rfl) ?_
  refine pG_getR (ci := 6) (f := 0) (b := 183) rfl rfl rfl (by rfl) (by decide) rfl ?_
  refine pG_many 1 (pc1 := 5) (L1 := [some (.ref 182), some (.ref p0), some (.int p1)]) (st1 := [.ref p0, .ref 183]) (M1 := mjTo Z) (fun _ _ => rfl) ?_
  cases hq101 : f51_indexIn p0 Z with
  | none => rw [hq101] at h; cases h
  | some v102 =>
    rw [hq101, mjBp_some] at h
    refine pG_callV (k2 := 51) (As := [.ref 183, .ref p0]) (rest := []) rfl rfl rfl rfl rfl (by rfl) (by decide) (by decide) (f51_indexIn_ok hq101) ?_
    rintro r9 M9 ⟨rfl, rfl⟩
    show pG 105 8 [some (.ref 182), some (.ref p0), some (.int p1)] [.int v102] (mjTo Z) _
    refine pG_many 1 (pc1 := 9) (L1 := [some (.ref 182), some (.ref p0), some (.int p1)]) (st1 := [.int p1, .int v102]) (M1 := mjTo Z) (fun _ _ => rfl) ?_
    by_cases hc104 : mjCmp .eq v102 p1 = true
    · rw [if_pos hc104] at h
      refine pG_cmt (t := 18) rfl rfl hc104 ?_
      refine pG_many 1 (pc1 := 19) (L1 := [some (.ref 182), some (.ref p0), some (.int p1)]) (st1 := [.ref 182]) (M1 := mjTo Z) (fun _ _ => rfl) ?_
      refine pG_getR (ci := 6) (f := 0) (b := 183) rfl rfl rfl (by rfl) (by decide) rfl ?_
      cases hq105 : f68_advance  Z with
      | none => rw [hq105] at h; cases h
      | some w =>
        obtain ⟨v106, Z107⟩ := w
        rw [hq105, mjBd_some] at h
        refine pG_callV (k2 := 68) (As := [.ref 183]) (rest := []) rfl rfl rfl rfl rfl (by rfl) (by decide) (by decide) (f68_advance_ok hq105) ?_
        rintro r9 M9 ⟨rfl, rfl⟩
        show pG 105 25 [some (.ref 182), some (.ref p0), some (.int p1)] [] (mjTo Z107) _
        refine pG_many 1 (pc1 := 26) (L1 := [some (.ref 182), some (.ref p0), some (.int p1)]) (st1 := [.int 1]) (M1 := mjTo Z107) (fun _ _ => rfl) ?_
        simp only [Option.some.injEq, Prod.mk.injEq] at h
        obtain ⟨rfl, rfl⟩ := h
        exact pG_ret (r := some (.int 1)) rfl ⟨rfl, rfl⟩
    · rw [if_neg hc104] at h
      refine pG_cmf (t := 18) rfl rfl hc104 ?_
      refine pG_many 2 (pc1 := 14) (L1 := [some (.ref 182), some (.ref p0), some (.int p1)]) (st1 := [.int 2, .ref 182]) (M1 := mjTo Z) (fun _ _ => rfl) ?_
      cases hq108 : f114_fail 2 Z with
      | none => rw [hq108] at h; cases h
      | some w =>
        obtain ⟨v109, Z110⟩ := w
        rw [hq108, mjBd_some] at h
        refine pG_callV (k2 := 104) (As := [.ref 182, .int 2]) (rest := []) rfl rfl rfl rfl rfl (by rfl) (by decide) (by decide) (f114_fail_ok hq108) ?_
        rintro r9 M9 ⟨rfl, rfl⟩
        show pG 105 17 [some (.ref 182), some (.ref p0), some (.int p1)] [.int v109] (mjTo Z110) _
        have hk111 : v109 = 0 ∨ v109 = 1 := by
          by_cases q9 : v109 = 0 ∨ v109 = 1
          · exact q9
          · rw [if_neg q9] at h; cases h
        rw [if_pos hk111] at h
        simp only [Option.some.injEq, Prod.mk.injEq] at h
        obtain ⟨rfl, rfl⟩ := h
        exact pG_ret (r := some (.int v109)) (mjRt1_z rfl rfl hk111) ⟨rfl, rfl⟩
