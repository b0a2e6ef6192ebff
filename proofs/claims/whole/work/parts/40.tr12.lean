def f262_changes_j75 (R : Int32 → Int32 → Int32 → Int32 → Int32 → mjZt → Option Int32) (x1 : Int32) (x2 : Int32) (x3 : Int32) (x4 : Int32) (x5 : Int32) (s0 : Int32) (Z : mjZt) : Option Int32 :=
  if mjCmp .ne s0 0 = true then
    if mjCmp .ne x3 (-s0) = true then
      mjBp (f196_truth 0 Z) fun v122 =>
      R x1 x2 s0 (x4 + v122) (x5 + 1) Z
    else
      mjBp (f196_truth 1 Z) fun v125 =>
      R x1 x2 s0 (x4 + v125) (x5 + 1) Z
  else
    R x1 x2 x3 x4 (x5 + 1) Z
set_option maxRecDepth 4000 in
theorem f262_changes_j75_ok (R : Int32 → Int32 → Int32 → Int32 → Int32 → mjZt → Option Int32) (hR : ∀ (x1 : Int32) (x2 : Int32) (x3 : Int32) (x4 : Int32) (x5 : Int32) (d6 d7 : Option Value) (Z : mjZt) (v9 : Int32), R x1 x2 x3 x4 x5 Z = some v9 → pG 262 31 [some (.ref 211), some (.int x1), some (.int x2), some (.int x3), some (.int x4), some (.int x5), d6, d7] [] (mjTo Z) (fun r M1 => r = some (.int v9) ∧ M1 = mjTo Z)) (x1 : Int32) (x2 : Int32) (x3 : Int32) (x4 : Int32) (x5 : Int32) (s0 : Int32) (d6 d7 : Option Value) (Z : mjZt) (v9 : Int32) (h : f262_changes_j75 R x1 x2 x3 x4 x5 s0 Z = some v9) : pG 262 75 [some (.ref 211), some (.int x1), some (.int x2), some (.int x3), some (.int x4), some (.int x5), d6, d7] [.int s0] (mjTo Z) (fun r M1 => r = some (.int v9) ∧ M1 = mjTo Z) := by
  unfold f262_changes_j75 at h
  refine pG_many 2 (pc1 := 79) (L1 := [some (.ref 211), some (.int x1), some (.int x2), some (.int x3), some (.int x4), some (.int x5), (mjK1 d6), some (.int s0)]) (st1 := [.int s0]) (M1 := mjTo Z) rfl ?_
  by_cases hc119 : mjCmp .ne s0 0 = true
  · rw [if_pos hc119] at h
    refine pG_ift (t := 85) rfl rfl hc119 ?_
    refine pG_many 4 (pc1 := 91) (L1 := [some (.ref 211), some (.int x1), some (.int x2), some (.int x3), some (.int x4), some (.int x5), (mjK1 d6), some (.int s0)]) (st1 := [.int (-s0), .int x3, .int x4]) (M1 := mjTo Z) rfl ?_
    by_cases hc120 : mjCmp .ne x3 (-s0) = true
    · rw [if_pos hc120] at h
      refine pG_cmt (t := 98) rfl rfl hc120 ?_
      refine pG_many 1 (pc1 := 99) (L1 := [some (.ref 211), some (.int x1), some (.int x2), some (.int x3), some (.int x4), some (.int x5), (mjK1 d6), some (.int s0)]) (st1 := [.int 0, .int x4]) (M1 := mjTo Z) rfl ?_
      cases hq121 : f196_truth 0 Z with
      | none => rw [hq121] at h; cases h
      | some v122 =>
        rw [hq121, mjBp_some] at h
        refine pG_call (k2 := 196) (As := [.int 0]) (rest := [.int x4]) rfl (by decide) (f196_truth_ok hq121) ?_
        rintro r9 M9 ⟨rfl, rfl⟩
        show pG 262 102 [some (.ref 211), some (.int x1), some (.int x2), some (.int x3), some (.int x4), some (.int x5), (mjK1 d6), some (.int s0)] [.int v122, .int x4] (mjTo Z) _
        refine pG_many 6 (pc1 := 31) (L1 := [some (.ref 211), some (.int x1), some (.int x2), some (.int s0), some (.int (x4 + v122)), some (.int (x5 + 1)), (mjK1 d6), some (.int s0)]) (st1 := []) (M1 := mjTo Z) rfl ?_
        exact hR x1 x2 s0 (x4 + v122) (x5 + 1) ((mjK1 d6)) (some (.int s0)) Z v9 h
    · rw [if_neg hc120] at h
      refine pG_cmf (t := 98) rfl rfl hc120 ?_
      refine pG_many 2 (pc1 := 99) (L1 := [some (.ref 211), some (.int x1), some (.int x2), some (.int x3), some (.int x4), some (.int x5), (mjK1 d6), some (.int s0)]) (st1 := [.int 1, .int x4]) (M1 := mjTo Z) rfl ?_
      cases hq124 : f196_truth 1 Z with
      | none => rw [hq124] at h; cases h
      | some v125 =>
        rw [hq124, mjBp_some] at h
        refine pG_call (k2 := 196) (As := [.int 1]) (rest := [.int x4]) rfl (by decide) (f196_truth_ok hq124) ?_
        rintro r9 M9 ⟨rfl, rfl⟩
        show pG 262 102 [some (.ref 211), some (.int x1), some (.int x2), some (.int x3), some (.int x4), some (.int x5), (mjK1 d6), some (.int s0)] [.int v125, .int x4] (mjTo Z) _
        refine pG_many 6 (pc1 := 31) (L1 := [some (.ref 211), some (.int x1), some (.int x2), some (.int s0), some (.int (x4 + v125)), some (.int (x5 + 1)), (mjK1 d6), some (.int s0)]) (st1 := []) (M1 := mjTo Z) rfl ?_
        exact hR x1 x2 s0 (x4 + v125) (x5 + 1) ((mjK1 d6)) (some (.int s0)) Z v9 h
  · rw [if_neg hc119] at h
    refine pG_iff (t := 85) rfl rfl hc119 ?_
    refine pG_many 3 (pc1 := 31) (L1 := [some (.ref 211), some (.int x1), some (.int x2), some (.int x3), some (.int x4), some (.int (x5 + 1)), (mjK1 d6), some (.int s0)]) (st1 := []) (M1 := mjTo Z) rfl ?_
    exact hR x1 x2 x3 x4 (x5 + 1) ((mjK1 d6)) (some (.int s0)) Z v9 h
def f262_changes_h31 : Nat → Int32 → Int32 → Int32 → Int32 → Int32 → mjZt → Option Int32
  | 0, _, _, _, _, _, _ => none
  | n + 1, x1, x2, x3, x4, x5, Z =>
    if mjCmp .gt x5 9999 = true then
      some x4
    else
      mjBp (f249_placeOf x1 x5 Z) fun v112 =>
      mjBp (f249_placeOf x2 x5 Z) fun v115 =>
      if mjCmp .le (v112 - v115) 0 = true then
        if mjCmp .ge (v112 - v115) 0 = true then
          f262_changes_j75 (f262_changes_h31 n) x1 x2 x3 x4 x5 0 Z
        else
          f262_changes_j75 (f262_changes_h31 n) x1 x2 x3 x4 x5 ((-1)) Z
      else
        f262_changes_j75 (f262_changes_h31 n) x1 x2 x3 x4 x5 1 Z
set_option maxRecDepth 4000 in
theorem f262_changes_h31_ok : ∀ (n : Nat) (x1 : Int32) (x2 : Int32) (x3 : Int32) (x4 : Int32) (x5 : Int32) (d6 d7 : Option Value) (Z : mjZt) (v9 : Int32), f262_changes_h31 n x1 x2 x3 x4 x5 Z = some v9 → pG 262 31 [some (.ref 211), some (.int x1), some (.int x2), some (.int x3), some (.int x4), some (.int x5), d6, d7] [] (mjTo Z) (fun r M1 => r = some (.int v9) ∧ M1 = mjTo Z)
  | 0, x1, x2, x3, x4, x5, d6, d7, Z, v9, h => by rw [f262_changes_h31] at h; cases h
  | n + 1, x1, x2, x3, x4, x5, d6, d7, Z, v9, h => by
      rw [f262_changes_h31] at h
      refine pG_many 2 (pc1 := 36) (L1 := [some (.ref 211), some (.int x1), some (.int x2), some (.int x3), some (.int x4), some (.int x5), d6, d7]) (st1 := [.int 9999, .int x5]) (M1 := mjTo Z) rfl ?_
      by_cases hc110 : mjCmp .gt x5 9999 = true
      · rw [if_pos hc110] at h
        refine pG_cmt (t := 114) rfl rfl hc110 ?_
        refine pG_many 1 (pc1 := 116) (L1 := [some (.ref 211), some (.int x1), some (.int x2), some (.int x3), some (.int x4), some (.int x5), d6, d7]) (st1 := [.int x4]) (M1 := mjTo Z) rfl ?_
        simp only [Option.some.injEq] at h
        subst h
        exact pG_ret (r := some (.int x4)) rfl ⟨rfl, rfl⟩
      · rw [if_neg hc110] at h
        refine pG_cmf (t := 114) rfl rfl hc110 ?_
        refine pG_many 3 (pc1 := 43) (L1 := [some (.ref 211), some (.int x1), some (.int x2), some (.int x3), some (.int x4), some (.int x5), d6, d7]) (st1 := [.int x5, .int x1, .ref 211]) (M1 := mjTo Z) rfl ?_
        cases hq111 : f249_placeOf x1 x5 Z with
        | none => rw [hq111] at h; cases h
        | some v112 =>
          rw [hq111, mjBp_some] at h
          refine pG_callV (k2 := 249) (As := [.ref 211, .int x1, .int x5]) (rest := []) rfl rfl rfl rfl rfl (by rfl) (by decide) (f249_placeOf_ok hq111) ?_
          rintro r9 M9 ⟨rfl, rfl⟩
          show pG 262 46 [some (.ref 211), some (.int x1), some (.int x2), some (.int x3), some (.int x4), some (.int x5), d6, d7] [.int v112] (mjTo Z) _
          refine pG_many 3 (pc1 := 50) (L1 := [some (.ref 211), some (.int x1), some (.int x2), some (.int x3), some (.int x4), some (.int x5), d6, d7]) (st1 := [.int x5, .int x2, .ref 211, .int v112]) (M1 := mjTo Z) rfl ?_
          cases hq114 : f249_placeOf x2 x5 Z with
          | none => rw [hq114] at h; cases h
          | some v115 =>
            rw [hq114, mjBp_some] at h
            refine pG_callV (k2 := 249) (As := [.ref 211, .int x2, .int x5]) (rest := [.int v112]) rfl rfl rfl rfl rfl (by rfl) (by decide) (f249_placeOf_ok hq114) ?_
            rintro r9 M9 ⟨rfl, rfl⟩
            show pG 262 53 [some (.ref 211), some (.int x1), some (.int x2), some (.int x3), some (.int x4), some (.int x5), d6, d7] [.int v115, .int v112] (mjTo Z) _
            refine pG_many 3 (pc1 := 58) (L1 := [some (.ref 211), some (.int x1), some (.int x2), some (.int x3), some (.int x4), some (.int x5), some (.int (v112 - v115)), d7]) (st1 := [.int (v112 - v115)]) (M1 := mjTo Z) rfl ?_
            by_cases hc117 : mjCmp .le (v112 - v115) 0 = true
            · rw [if_pos hc117] at h
              refine pG_ift (t := 65) rfl rfl hc117 ?_
              refine pG_many 1 (pc1 := 67) (L1 := [some (.ref 211), some (.int x1), some (.int x2), some (.int x3), some (.int x4), some (.int x5), some (.int (v112 - v115)), d7]) (st1 := [.int (v112 - v115)]) (M1 := mjTo Z) rfl ?_
              by_cases hc118 : mjCmp .ge (v112 - v115) 0 = true
              · rw [if_pos hc118] at h
                refine pG_ift (t := 74) rfl rfl hc118 ?_
                refine pG_many 1 (pc1 := 75) (L1 := [some (.ref 211), some (.int x1), some (.int x2), some (.int x3), some (.int x4), some (.int x5), some (.int (v112 - v115)), d7]) (st1 := [.int 0]) (M1 := mjTo Z) rfl ?_
                exact f262_changes_j75_ok (f262_changes_h31 n) (fun x1 x2 x3 x4 x5 d6 d7 Z v9 h => f262_changes_h31_ok n x1 x2 x3 x4 x5 d6 d7 Z v9 h) x1 x2 x3 x4 x5 0 (some (.int (v112 - v115))) d7 Z v9 h
              · rw [if_neg hc118] at h
                refine pG_iff (t := 74) rfl rfl hc118 ?_
                refine pG_many 2 (pc1 := 75) (L1 := [some (.ref 211), some (.int x1), some (.int x2), some (.int x3), some (.int x4), some (.int x5), some (.int (v112 - v115)), d7]) (st1 := [.int ((-1))]) (M1 := mjTo Z) rfl ?_
                exact f262_changes_j75_ok (f262_changes_h31 n) (fun x1 x2 x3 x4 x5 d6 d7 Z v9 h => f262_changes_h31_ok n x1 x2 x3 x4 x5 d6 d7 Z v9 h) x1 x2 x3 x4 x5 ((-1)) (some (.int (v112 - v115))) d7 Z v9 h
            · rw [if_neg hc117] at h
              refine pG_iff (t := 65) rfl rfl hc117 ?_
              refine pG_many 2 (pc1 := 75) (L1 := [some (.ref 211), some (.int x1), some (.int x2), some (.int x3), some (.int x4), some (.int x5), some (.int (v112 - v115)), d7]) (st1 := [.int 1]) (M1 := mjTo Z) rfl ?_
              exact f262_changes_j75_ok (f262_changes_h31 n) (fun x1 x2 x3 x4 x5 d6 d7 Z v9 h => f262_changes_h31_ok n x1 x2 x3 x4 x5 d6 d7 Z v9 h) x1 x2 x3 x4 x5 1 (some (.int (v112 - v115))) d7 Z v9 h
def f262_changes (p0 : Int32) (p1 : Int32) (Z : mjZt) : Option Int32 :=
  mjBp (f240_isTeam p0 Z) fun v102 =>
  if mjCmp .eq v102 0 = true then
    some ((-1))
  else
    mjBp (f240_isTeam p1 Z) fun v106 =>
    if mjCmp .eq v106 0 = true then
      some ((-1))
    else
      if mjCmp .ne p0 p1 = true then
        f262_changes_h31 mjF p0 p1 0 0 0 Z
      else
        some ((-1))
set_option maxRecDepth 4000 in
theorem f262_changes_ok {p0 : Int32} {p1 : Int32} {Z : mjZt} {v9 : Int32} (h : f262_changes p0 p1 Z = some v9) : pG 262 0 (mjEnt [.ref 211, .int p0, .int p1] (mjML 262)) [] (mjTo Z) (fun r M1 => r = some (.int v9) ∧ M1 = mjTo Z) := by
  unfold f262_changes at h
  show pG 262 0 [some (.ref 211), some (.int p0), some (.int p1), none, none, none, none, none] [] (mjTo Z) _
  refine pG_many 2 (pc1 := 2) (L1 := [some (.ref 211), some (.int p0), some (.int p1), none, none, none, none, none]) (st1 := [.int p0, .ref 211]) (M1 := mjTo Z) rfl ?_
  cases hq101 : f240_isTeam p0 Z with
  | none => rw [hq101] at h; cases h
  | some v102 =>
    rw [hq101, mjBp_some] at h
    refine pG_callV (k2 := 240) (As := [.ref 211, .int p0]) (rest := []) rfl rfl rfl rfl rfl (by rfl) (by decide) (f240_isTeam_ok hq101) ?_
    rintro r9 M9 ⟨rfl, rfl⟩
    show pG 262 5 [some (.ref 211), some (.int p0), some (.int p1), none, none, none, none, none] [.int v102] (mjTo Z) _
    by_cases hc104 : mjCmp .eq v102 0 = true
    · rw [if_pos hc104] at h
      refine pG_ift (t := 21) rfl rfl hc104 ?_
      refine pG_many 1 (pc1 := 22) (L1 := [some (.ref 211), some (.int p0), some (.int p1), none, none, none, none, none]) (st1 := [.int ((-1))]) (M1 := mjTo Z) rfl ?_
      simp only [Option.some.injEq] at h
      subst h
      exact pG_ret (r := some (.int ((-1)))) rfl ⟨rfl, rfl⟩
    · rw [if_neg hc104] at h
      refine pG_iff (t := 21) rfl rfl hc104 ?_
      refine pG_many 2 (pc1 := 10) (L1 := [some (.ref 211), some (.int p0), some (.int p1), none, none, none, none, none]) (st1 := [.int p1, .ref 211]) (M1 := mjTo Z) rfl ?_
      cases hq105 : f240_isTeam p1 Z with
      | none => rw [hq105] at h; cases h
      | some v106 =>
        rw [hq105, mjBp_some] at h
        refine pG_callV (k2 := 240) (As := [.ref 211, .int p1]) (rest := []) rfl rfl rfl rfl rfl (by rfl) (by decide) (f240_isTeam_ok hq105) ?_
        rintro r9 M9 ⟨rfl, rfl⟩
        show pG 262 13 [some (.ref 211), some (.int p0), some (.int p1), none, none, none, none, none] [.int v106] (mjTo Z) _
        by_cases hc108 : mjCmp .eq v106 0 = true
        · rw [if_pos hc108] at h
          refine pG_ift (t := 21) rfl rfl hc108 ?_
          refine pG_many 1 (pc1 := 22) (L1 := [some (.ref 211), some (.int p0), some (.int p1), none, none, none, none, none]) (st1 := [.int ((-1))]) (M1 := mjTo Z) rfl ?_
          simp only [Option.some.injEq] at h
          subst h
          exact pG_ret (r := some (.int ((-1)))) rfl ⟨rfl, rfl⟩
        · rw [if_neg hc108] at h
          refine pG_iff (t := 21) rfl rfl hc108 ?_
          refine pG_many 2 (pc1 := 18) (L1 := [some (.ref 211), some (.int p0), some (.int p1), none, none, none, none, none]) (st1 := [.int p1, .int p0]) (M1 := mjTo Z) rfl ?_
          by_cases hc109 : mjCmp .ne p0 p1 = true
          · rw [if_pos hc109] at h
            refine pG_cmt (t := 23) rfl rfl hc109 ?_
            refine pG_many 6 (pc1 := 31) (L1 := [some (.ref 211), some (.int p0), some (.int p1), some (.int 0), some (.int 0), some (.int 0), none, none]) (st1 := []) (M1 := mjTo Z) rfl ?_
            exact f262_changes_h31_ok mjF p0 p1 0 0 0 none none Z v9 h
          · rw [if_neg hc109] at h
            refine pG_cmf (t := 23) rfl rfl hc109 ?_
            refine pG_many 1 (pc1 := 22) (L1 := [some (.ref 211), some (.int p0), some (.int p1), none, none, none, none, none]) (st1 := [.int ((-1))]) (M1 := mjTo Z) rfl ?_
            simp only [Option.some.injEq] at h
            subst h
            exact pG_ret (r := some (.int ((-1)))) rfl ⟨rfl, rfl⟩
def f263_cutIn_j50 (R : Int32 → Int32 → mjZt → Option (Int32 × mjZt)) (x1 : Int32) (x2 : Int32) (s1 : Int32) (s2 : Int32) (Z : mjZt) : Option (Int32 × mjZt) :=
  if mjIn s1 6 = true then
  mjLet (zSi Z 241 (mjIx s1) s2) fun Z110 =>
  if mjIn x2 6 = true then
  if mjCmp .eq (Z110.1 241 (mjIx x2)) ((-2)) = true then
    mjLet (zSi Z110 242 (mjIx x2) 0) fun Z113 =>
    R x1 (x2 + 1) Z113
  else
    mjLet (zSi Z110 242 (mjIx x2) 1) fun Z114 =>
    R x1 (x2 + 1) Z114
  else none
  else none
set_option maxRecDepth 4000 in
theorem f263_cutIn_j50_ok (R : Int32 → Int32 → mjZt → Option (Int32 × mjZt)) (hR : ∀ (x1 : Int32) (x2 : Int32) (Z : mjZt) (v9 : Int32) (Z9 : mjZt), R x1 x2 Z = some (v9, Z9) → pG 263 2 [some (.ref 211), some (.int x1), some (.int x2)] [] (mjTo Z) (fun r M1 => r = some (.int v9) ∧ M1 = mjTo Z9)) (x1 : Int32) (x2 : Int32) (s1 : Int32) (s2 : Int32) (Z : mjZt) (v9 : Int32) (Z9 : mjZt) (h : f263_cutIn_j50 R x1 x2 s1 s2 Z = some (v9, Z9)) : pG 263 50 [some (.ref 211), some (.int x1), some (.int x2)] [.int s2, .int s1, .ref 241] (mjTo Z) (fun r M1 => r = some (.int v9) ∧ M1 = mjTo Z9) := by
  unfold f263_cutIn_j50 at h
  have hk109 : mjIn s1 6 = true := by
    by_cases q9 : mjIn s1 6 = true
    · exact q9
    · rw [if_neg q9] at h; cases h
  rw [if_pos hk109] at h
  refine pG_ias rfl (by rfl) hk109 (?_ : pG 263 51 [some (.ref 211), some (.int x1), some (.int x2)] [] (mjTo (zSi Z 241 (mjIx s1) s2)) _)
  rw [mjLet] at h
  generalize zSi Z 241 (mjIx s1) s2 = Z110 at h ⊢
  refine pG_many 1 (pc1 := 52) (L1 := [some (.ref 211), some (.int x1), some (.int x2)]) (st1 := [.ref 211]) (M1 := mjTo Z110) rfl ?_
  refine pG_getR (ci := 12) (f := 58) (b := 242) rfl rfl rfl (by rfl) rfl ?_
  refine pG_many 2 (pc1 := 57) (L1 := [some (.ref 211), some (.int x1), some (.int x2)]) (st1 := [.ref 211, .int x2, .ref 242]) (M1 := mjTo Z110) rfl ?_
  refine pG_getR (ci := 12) (f := 57) (b := 241) rfl rfl rfl (by rfl) rfl ?_
  refine pG_many 1 (pc1 := 61) (L1 := [some (.ref 211), some (.int x1), some (.int x2)]) (st1 := [.int x2, .ref 241, .int x2, .ref 242]) (M1 := mjTo Z110) rfl ?_
  have hk111 : mjIn x2 6 = true := by
    by_cases q9 : mjIn x2 6 = true
    · exact q9
    · rw [if_neg q9] at h; cases h
  rw [if_pos hk111] at h
  refine pG_ial rfl (by rfl) hk111 ?_
  refine pG_many 1 (pc1 := 64) (L1 := [some (.ref 211), some (.int x1), some (.int x2)]) (st1 := [.int ((-2)), .int (Z110.1 241 (mjIx x2)), .int x2, .ref 242]) (M1 := mjTo Z110) rfl ?_
  by_cases hc112 : mjCmp .eq (Z110.1 241 (mjIx x2)) ((-2)) = true
  · rw [if_pos hc112] at h
    refine pG_cmt (t := 71) rfl rfl hc112 ?_
    refine pG_many 1 (pc1 := 72) (L1 := [some (.ref 211), some (.int x1), some (.int x2)]) (st1 := [.int 0, .int x2, .ref 242]) (M1 := mjTo Z110) rfl ?_
    refine pG_bas rfl (by rfl) hk111 (Or.inl rfl) (?_ : pG 263 73 [some (.ref 211), some (.int x1), some (.int x2)] [] (mjTo (zSi Z110 242 (mjIx x2) 0)) _)
    rw [mjLet] at h
    generalize zSi Z110 242 (mjIx x2) 0 = Z113 at h ⊢
    refine pG_many 2 (pc1 := 2) (L1 := [some (.ref 211), some (.int x1), some (.int (x2 + 1))]) (st1 := []) (M1 := mjTo Z113) rfl ?_
    exact hR x1 (x2 + 1) Z113 v9 Z9 h
  · rw [if_neg hc112] at h
    refine pG_cmf (t := 71) rfl rfl hc112 ?_
    refine pG_many 2 (pc1 := 72) (L1 := [some (.ref 211), some (.int x1), some (.int x2)]) (st1 := [.int 1, .int x2, .ref 242]) (M1 := mjTo Z110) rfl ?_
    refine pG_bas rfl (by rfl) hk111 (Or.inr rfl) (?_ : pG 263 73 [some (.ref 211), some (.int x1), some (.int x2)] [] (mjTo (zSi Z110 242 (mjIx x2) 1)) _)
    rw [mjLet] at h
    generalize zSi Z110 242 (mjIx x2) 1 = Z114 at h ⊢
    refine pG_many 2 (pc1 := 2) (L1 := [some (.ref 211), some (.int x1), some (.int (x2 + 1))]) (st1 := []) (M1 := mjTo Z114) rfl ?_
    exact hR x1 (x2 + 1) Z114 v9 Z9 h
def f263_cutIn_h2 : Nat → Int32 → Int32 → mjZt → Option (Int32 × mjZt)
  | 0, _, _, _ => none
  | n + 1, x1, x2, Z =>
    if mjCmp .ge x2 (Z.1 211 39) = true then
      mjBp (f259_keyedAt x1 Z) fun v103 =>
      some (v103, Z)
    else
      if mjCmp .ne (Z.1 229 4) 0 = true then
        mjBp (f257_comesTo x2 (10 * ((Z.1 229 1) + (Z.1 229 4))) Z) fun v107 =>
        f263_cutIn_j50 (f263_cutIn_h2 n) x1 x2 x2 v107 Z
      else
        f263_cutIn_j50 (f263_cutIn_h2 n) x1 x2 x2 ((-2)) Z
set_option maxRecDepth 4000 in
theorem f263_cutIn_h2_ok : ∀ (n : Nat) (x1 : Int32) (x2 : Int32) (Z : mjZt) (v9 : Int32) (Z9 : mjZt), f263_cutIn_h2 n x1 x2 Z = some (v9, Z9) → pG 263 2 [some (.ref 211), some (.int x1), some (.int x2)] [] (mjTo Z) (fun r M1 => r = some (.int v9) ∧ M1 = mjTo Z9)
  | 0, x1, x2, Z, v9, Z9, h => by rw [f263_cutIn_h2] at h; cases h
  | n + 1, x1, x2, Z, v9, Z9, h => by
      rw [f263_cutIn_h2] at h
      refine pG_many 2 (pc1 := 4) (L1 := [some (.ref 211), some (.int x1), some (.int x2)]) (st1 := [.ref 211, .int x2]) (M1 := mjTo Z) rfl ?_
      refine pG_getI (ci := 12) (f := 39) rfl rfl (Or.inl rfl) (by rfl) ?_
      by_cases hc101 : mjCmp .ge x2 (Z.1 211 39) = true
      · rw [if_pos hc101] at h
        refine pG_cmt (t := 79) rfl rfl hc101 ?_
        refine pG_many 2 (pc1 := 81) (L1 := [some (.ref 211), some (.int x1), some (.int x2)]) (st1 := [.int x1, .ref 211]) (M1 := mjTo Z) rfl ?_
        cases hq102 : f259_keyedAt x1 Z with
        | none => rw [hq102] at h; cases h
        | some v103 =>
          rw [hq102, mjBp_some] at h
          refine pG_callV (k2 := 259) (As := [.ref 211, .int x1]) (rest := []) rfl rfl rfl rfl rfl (by rfl) (by decide) (f259_keyedAt_ok hq102) ?_
          rintro r9 M9 ⟨rfl, rfl⟩
          show pG 263 84 [some (.ref 211), some (.int x1), some (.int x2)] [.int v103] (mjTo Z) _
          simp only [Option.some.injEq, Prod.mk.injEq] at h
          obtain ⟨rfl, rfl⟩ := h
          exact pG_ret (r := some (.int v103)) rfl ⟨rfl, rfl⟩
      · rw [if_neg hc101] at h
        refine pG_cmf (t := 79) rfl rfl hc101 ?_
        refine pG_many 1 (pc1 := 11) (L1 := [some (.ref 211), some (.int x1), some (.int x2)]) (st1 := [.ref 211]) (M1 := mjTo Z) rfl ?_
        refine pG_getR (ci := 12) (f := 57) (b := 241) rfl rfl rfl (by rfl) rfl ?_
        refine pG_many 2 (pc1 := 16) (L1 := [some (.ref 211), some (.int x1), some (.int x2)]) (st1 := [.ref 211, .int x2, .ref 241]) (M1 := mjTo Z) rfl ?_
        refine pG_getR (ci := 12) (f := 44) (b := 229) rfl rfl rfl (by rfl) rfl ?_
        refine pG_many 1 (pc1 := 20) (L1 := [some (.ref 211), some (.int x1), some (.int x2)]) (st1 := [.int 4, .ref 229, .int x2, .ref 241]) (M1 := mjTo Z) rfl ?_
        refine pG_ial rfl (by rfl) (by decide) ?_
        by_cases hc105 : mjCmp .ne (Z.1 229 4) 0 = true
        · rw [if_pos hc105] at h
          refine pG_ift (t := 29) rfl rfl hc105 ?_
          refine pG_many 4 (pc1 := 34) (L1 := [some (.ref 211), some (.int x1), some (.int x2)]) (st1 := [.ref 211, .int 10, .int x2, .ref 211, .int x2, .ref 241]) (M1 := mjTo Z) rfl ?_
          refine pG_getR (ci := 12) (f := 44) (b := 229) rfl rfl rfl (by rfl) rfl ?_
          refine pG_many 1 (pc1 := 38) (L1 := [some (.ref 211), some (.int x1), some (.int x2)]) (st1 := [.int 1, .ref 229, .int 10, .int x2, .ref 211, .int x2, .ref 241]) (M1 := mjTo Z) rfl ?_
          refine pG_ial rfl (by rfl) (by decide) ?_
          refine pG_many 1 (pc1 := 40) (L1 := [some (.ref 211), some (.int x1), some (.int x2)]) (st1 := [.ref 211, .int (Z.1 229 1), .int 10, .int x2, .ref 211, .int x2, .ref 241]) (M1 := mjTo Z) rfl ?_
          refine pG_getR (ci := 12) (f := 44) (b := 229) rfl rfl rfl (by rfl) rfl ?_
          refine pG_many 1 (pc1 := 44) (L1 := [some (.ref 211), some (.int x1), some (.int x2)]) (st1 := [.int 4, .ref 229, .int (Z.1 229 1), .int 10, .int x2, .ref 211, .int x2, .ref 241]) (M1 := mjTo Z) rfl ?_
          refine pG_ial rfl (by rfl) (by decide) ?_
          refine pG_many 2 (pc1 := 47) (L1 := [some (.ref 211), some (.int x1), some (.int x2)]) (st1 := [.int (10 * ((Z.1 229 1) + (Z.1 229 4))), .int x2, .ref 211, .int x2, .ref 241]) (M1 := mjTo Z) rfl ?_
          cases hq106 : f257_comesTo x2 (10 * ((Z.1 229 1) + (Z.1 229 4))) Z with
          | none => rw [hq106] at h; cases h
          | some v107 =>
            rw [hq106, mjBp_some] at h
            refine pG_callV (k2 := 257) (As := [.ref 211, .int x2, .int (10 * ((Z.1 229 1) + (Z.1 229 4)))]) (rest := [.int x2, .ref 241]) rfl rfl rfl rfl rfl (by rfl) (by decide) (f257_comesTo_ok hq106) ?_
            rintro r9 M9 ⟨rfl, rfl⟩
            show pG 263 50 [some (.ref 211), some (.int x1), some (.int x2)] [.int v107, .int x2, .ref 241] (mjTo Z) _
            exact f263_cutIn_j50_ok (f263_cutIn_h2 n) (fun x1 x2 Z v9 Z9 h => f263_cutIn_h2_ok n x1 x2 Z v9 Z9 h) x1 x2 x2 v107 Z v9 Z9 h
        · rw [if_neg hc105] at h
          refine pG_iff (t := 29) rfl rfl hc105 ?_
          refine pG_many 2 (pc1 := 50) (L1 := [some (.ref 211), some (.int x1), some (.int x2)]) (st1 := [.int ((-2)), .int x2, .ref 241]) (M1 := mjTo Z) rfl ?_
          exact f263_cutIn_j50_ok (f263_cutIn_h2 n) (fun x1 x2 Z v9 Z9 h => f263_cutIn_h2_ok n x1 x2 Z v9 Z9 h) x1 x2 x2 ((-2)) Z v9 Z9 h
def f263_cutIn (p0 : Int32) (Z : mjZt) : Option (Int32 × mjZt) :=
  f263_cutIn_h2 mjF p0 0 Z
set_option maxRecDepth 4000 in
theorem f263_cutIn_ok {p0 : Int32} {Z : mjZt} {v9 : Int32} {Z9 : mjZt} (h : f263_cutIn p0 Z = some (v9, Z9)) : pG 263 0 (mjEnt [.ref 211, .int p0] (mjML 263)) [] (mjTo Z) (fun r M1 => r = some (.int v9) ∧ M1 = mjTo Z9) := by
  unfold f263_cutIn at h
  show pG 263 0 [some (.ref 211), some (.int p0), none] [] (mjTo Z) _
  refine pG_many 2 (pc1 := 2) (L1 := [some (.ref 211), some (.int p0), some (.int 0)]) (st1 := []) (M1 := mjTo Z) rfl ?_
  exact f263_cutIn_h2_ok mjF p0 0 Z v9 Z9 h
def f264_behind_h63 : Nat → Int32 → Int32 → Int32 → Int32 → mjZt → Option Int32
  | 0, _, _, _, _, _ => none
  | n + 1, x3, x4, x5, x6, Z =>
    if mjCmp .ge x6 (Z.1 211 39) = true then
      some (x4 - x5)
    else
      mjBp (f257_comesTo x6 x3 Z) fun v115 =>
      if mjCmp .eq v115 ((-2)) = true then
        f264_behind_h63 n x3 x4 x5 (x6 + 1) Z
      else
        if mjCmp .ge v115 x5 = true then
          f264_behind_h63 n x3 x4 x5 (x6 + 1) Z
        else
          f264_behind_h63 n x3 x4 v115 (x6 + 1) Z
set_option maxRecDepth 4000 in
theorem f264_behind_h63_ok : ∀ (n : Nat) (x3 : Int32) (x4 : Int32) (x5 : Int32) (x6 : Int32) (d1 d2 d7 : Option Value) (Z : mjZt) (v9 : Int32), f264_behind_h63 n x3 x4 x5 x6 Z = some v9 → pG 264 63 [some (.ref 211), d1, d2, some (.int x3), some (.int x4), some (.int x5), some (.int x6), d7] [] (mjTo Z) (fun r M1 => r = some (.int v9) ∧ M1 = mjTo Z)
  | 0, x3, x4, x5, x6, d1, d2, d7, Z, v9, h => by rw [f264_behind_h63] at h; cases h
  | n + 1, x3, x4, x5, x6, d1, d2, d7, Z, v9, h => by
      rw [f264_behind_h63] at h
      refine pG_many 2 (pc1 := 66) (L1 := [some (.ref 211), d1, d2, some (.int x3), some (.int x4), some (.int x5), some (.int x6), d7]) (st1 := [.ref 211, .int x6]) (M1 := mjTo Z) rfl ?_
      refine pG_getI (ci := 12) (f := 39) rfl rfl (Or.inl rfl) (by rfl) ?_
      by_cases hc113 : mjCmp .ge x6 (Z.1 211 39) = true
      · rw [if_pos hc113] at h
        refine pG_cmt (t := 110) rfl rfl hc113 ?_
        refine pG_many 3 (pc1 := 115) (L1 := [some (.ref 211), d1, d2, some (.int x3), some (.int x4), some (.int x5), some (.int x6), d7]) (st1 := [.int (x4 - x5)]) (M1 := mjTo Z) rfl ?_
        simp only [Option.some.injEq] at h
        subst h
        exact pG_ret (r := some (.int (x4 - x5))) rfl ⟨rfl, rfl⟩
      · rw [if_neg hc113] at h
        refine pG_cmf (t := 110) rfl rfl hc113 ?_
        refine pG_many 3 (pc1 := 76) (L1 := [some (.ref 211), d1, d2, some (.int x3), some (.int x4), some (.int x5), some (.int x6), d7]) (st1 := [.int x3, .int x6, .ref 211]) (M1 := mjTo Z) rfl ?_
        cases hq114 : f257_comesTo x6 x3 Z with
        | none => rw [hq114] at h; cases h
        | some v115 =>
          rw [hq114, mjBp_some] at h
          refine pG_callV (k2 := 257) (As := [.ref 211, .int x6, .int x3]) (rest := []) rfl rfl rfl rfl rfl (by rfl) (by decide) (f257_comesTo_ok hq114) ?_
          rintro r9 M9 ⟨rfl, rfl⟩
          show pG 264 79 [some (.ref 211), d1, d2, some (.int x3), some (.int x4), some (.int x5), some (.int x6), d7] [.int v115] (mjTo Z) _
          refine pG_many 3 (pc1 := 85) (L1 := [some (.ref 211), d1, d2, some (.int x3), some (.int x4), some (.int x5), some (.int x6), some (.int v115)]) (st1 := [.int ((-2)), .int v115]) (M1 := mjTo Z) rfl ?_
          by_cases hc117 : mjCmp .eq v115 ((-2)) = true
          · rw [if_pos hc117] at h
            refine pG_cmt (t := 100) rfl rfl hc117 ?_
            refine pG_many 4 (pc1 := 63) (L1 := [some (.ref 211), d1, d2, some (.int x3), some (.int x4), some (.int x5), some (.int (x6 + 1)), some (.int v115)]) (st1 := []) (M1 := mjTo Z) rfl ?_
            exact f264_behind_h63_ok n x3 x4 x5 (x6 + 1) d1 d2 (some (.int v115)) Z v9 h
          · rw [if_neg hc117] at h
            refine pG_cmf (t := 100) rfl rfl hc117 ?_
            refine pG_many 2 (pc1 := 92) (L1 := [some (.ref 211), d1, d2, some (.int x3), some (.int x4), some (.int x5), some (.int x6), some (.int v115)]) (st1 := [.int x5, .int v115]) (M1 := mjTo Z) rfl ?_
            by_cases hc118 : mjCmp .ge v115 x5 = true
            · rw [if_pos hc118] at h
              refine pG_cmt (t := 100) rfl rfl hc118 ?_
              refine pG_many 4 (pc1 := 63) (L1 := [some (.ref 211), d1, d2, some (.int x3), some (.int x4), some (.int x5), some (.int (x6 + 1)), some (.int v115)]) (st1 := []) (M1 := mjTo Z) rfl ?_
              exact f264_behind_h63_ok n x3 x4 x5 (x6 + 1) d1 d2 (some (.int v115)) Z v9 h
            · rw [if_neg hc118] at h
              refine pG_cmf (t := 100) rfl rfl hc118 ?_
              refine pG_many 5 (pc1 := 63) (L1 := [some (.ref 211), d1, d2, some (.int x3), some (.int x4), some (.int v115), some (.int (x6 + 1)), some (.int v115)]) (st1 := []) (M1 := mjTo Z) rfl ?_
              exact f264_behind_h63_ok n x3 x4 v115 (x6 + 1) d1 d2 (some (.int v115)) Z v9 h
def f264_behind (p0 : Int32) (p1 : Int32) (Z : mjZt) : Option Int32 :=
  mjBp (f240_isTeam p0 Z) fun v102 =>
  if mjCmp .eq v102 0 = true then
    some ((-1))
  else
    mjBp (f195_isIn (Int32.toInt64 p1) 1 (Int32.toInt64 (Z.1 229 0)) Z) fun v106 =>
    if mjCmp .ne v106 0 = true then
      mjBp (f257_comesTo p0 ((10 * p1) * (Z.1 229 1)) Z) fun v110 =>
      if mjCmp .ne v110 ((-2)) = true then
        f264_behind_h63 mjF ((10 * p1) * (Z.1 229 1)) v110 v110 0 Z
      else
        some ((-2))
    else
      some ((-1))
set_option maxRecDepth 4000 in
theorem f264_behind_ok {p0 : Int32} {p1 : Int32} {Z : mjZt} {v9 : Int32} (h : f264_behind p0 p1 Z = some v9) : pG 264 0 (mjEnt [.ref 211, .int p0, .int p1] (mjML 264)) [] (mjTo Z) (fun r M1 => r = some (.int v9) ∧ M1 = mjTo Z) := by
  unfold f264_behind at h
  show pG 264 0 [some (.ref 211), some (.int p0), some (.int p1), none, none, none, none, none] [] (mjTo Z) _
  refine pG_many 2 (pc1 := 2) (L1 := [some (.ref 211), some (.int p0), some (.int p1), none, none, none, none, none]) (st1 := [.int p0, .ref 211]) (M1 := mjTo Z) rfl ?_
  cases hq101 : f240_isTeam p0 Z with
  | none => rw [hq101] at h; cases h
  | some v102 =>
    rw [hq101, mjBp_some] at h
    refine pG_callV (k2 := 240) (As := [.ref 211, .int p0]) (rest := []) rfl rfl rfl rfl rfl (by rfl) (by decide) (f240_isTeam_ok hq101) ?_
    rintro r9 M9 ⟨rfl, rfl⟩
    show pG 264 5 [some (.ref 211), some (.int p0), some (.int p1), none, none, none, none, none] [.int v102] (mjTo Z) _
    by_cases hc104 : mjCmp .eq v102 0 = true
    · rw [if_pos hc104] at h
      refine pG_ift (t := 24) rfl rfl hc104 ?_
      refine pG_many 1 (pc1 := 25) (L1 := [some (.ref 211), some (.int p0), some (.int p1), none, none, none, none, none]) (st1 := [.int ((-1))]) (M1 := mjTo Z) rfl ?_
      simp only [Option.some.injEq] at h
      subst h
      exact pG_ret (r := some (.int ((-1)))) rfl ⟨rfl, rfl⟩
    · rw [if_neg hc104] at h
      refine pG_iff (t := 24) rfl rfl hc104 ?_
      refine pG_many 4 (pc1 := 12) (L1 := [some (.ref 211), some (.int p0), some (.int p1), none, none, none, none, none]) (st1 := [.ref 211, .long 1, .long (Int32.toInt64 p1)]) (M1 := mjTo Z) rfl ?_
      refine pG_getR (ci := 12) (f := 44) (b := 229) rfl rfl rfl (by rfl) rfl ?_
      refine pG_many 1 (pc1 := 16) (L1 := [some (.ref 211), some (.int p0), some (.int p1), none, none, none, none, none]) (st1 := [.int 0, .ref 229, .long 1, .long (Int32.toInt64 p1)]) (M1 := mjTo Z) rfl ?_
      refine pG_ial rfl (by rfl) (by decide) ?_
      refine pG_many 1 (pc1 := 18) (L1 := [some (.ref 211), some (.int p0), some (.int p1), none, none, none, none, none]) (st1 := [.long (Int32.toInt64 (Z.1 229 0)), .long 1, .long (Int32.toInt64 p1)]) (M1 := mjTo Z) rfl ?_
      cases hq105 : f195_isIn (Int32.toInt64 p1) 1 (Int32.toInt64 (Z.1 229 0)) Z with
      | none => rw [hq105] at h; cases h
      | some v106 =>
        rw [hq105, mjBp_some] at h
        refine pG_call (k2 := 195) (As := [.long (Int32.toInt64 p1), .long 1, .long (Int32.toInt64 (Z.1 229 0))]) (rest := []) rfl (by decide) (f195_isIn_ok hq105) ?_
        rintro r9 M9 ⟨rfl, rfl⟩
        show pG 264 21 [some (.ref 211), some (.int p0), some (.int p1), none, none, none, none, none] [.int v106] (mjTo Z) _
        by_cases hc108 : mjCmp .ne v106 0 = true
        · rw [if_pos hc108] at h
          refine pG_ift (t := 26) rfl rfl hc108 ?_
          refine pG_many 4 (pc1 := 31) (L1 := [some (.ref 211), some (.int p0), some (.int p1), none, none, none, none, none]) (st1 := [.ref 211, .int (10 * p1)]) (M1 := mjTo Z) rfl ?_
          refine pG_getR (ci := 12) (f := 44) (b := 229) rfl rfl rfl (by rfl) rfl ?_
          refine pG_many 1 (pc1 := 35) (L1 := [some (.ref 211), some (.int p0), some (.int p1), none, none, none, none, none]) (st1 := [.int 1, .ref 229, .int (10 * p1)]) (M1 := mjTo Z) rfl ?_
          refine pG_ial rfl (by rfl) (by decide) ?_
          refine pG_many 5 (pc1 := 41) (L1 := [some (.ref 211), some (.int p0), some (.int p1), some (.int ((10 * p1) * (Z.1 229 1))), none, none, none, none]) (st1 := [.int ((10 * p1) * (Z.1 229 1)), .int p0, .ref 211]) (M1 := mjTo Z) rfl ?_
          cases hq109 : f257_comesTo p0 ((10 * p1) * (Z.1 229 1)) Z with
          | none => rw [hq109] at h; cases h
          | some v110 =>
            rw [hq109, mjBp_some] at h
            refine pG_callV (k2 := 257) (As := [.ref 211, .int p0, .int ((10 * p1) * (Z.1 229 1))]) (rest := []) rfl rfl rfl rfl rfl (by rfl) (by decide) (f257_comesTo_ok hq109) ?_
            rintro r9 M9 ⟨rfl, rfl⟩
            show pG 264 44 [some (.ref 211), some (.int p0), some (.int p1), some (.int ((10 * p1) * (Z.1 229 1))), none, none, none, none] [.int v110] (mjTo Z) _
            refine pG_many 3 (pc1 := 50) (L1 := [some (.ref 211), some (.int p0), some (.int p1), some (.int ((10 * p1) * (Z.1 229 1))), some (.int v110), none, none, none]) (st1 := [.int ((-2)), .int v110]) (M1 := mjTo Z) rfl ?_
            by_cases hc112 : mjCmp .ne v110 ((-2)) = true
            · rw [if_pos hc112] at h
              refine pG_cmt (t := 56) rfl rfl hc112 ?_
              refine pG_many 4 (pc1 := 63) (L1 := [some (.ref 211), some (.int p0), some (.int p1), some (.int ((10 * p1) * (Z.1 229 1))), some (.int v110), some (.int v110), some (.int 0), none]) (st1 := []) (M1 := mjTo Z) rfl ?_
              exact f264_behind_h63_ok mjF ((10 * p1) * (Z.1 229 1)) v110 v110 0 (some (.int p0)) (some (.int p1)) none Z v9 h
            · rw [if_neg hc112] at h
              refine pG_cmf (t := 56) rfl rfl hc112 ?_
              refine pG_many 1 (pc1 := 55) (L1 := [some (.ref 211), some (.int p0), some (.int p1), some (.int ((10 * p1) * (Z.1 229 1))), some (.int v110), none, none, none]) (st1 := [.int ((-2))]) (M1 := mjTo Z) rfl ?_
              simp only [Option.some.injEq] at h
              subst h
              exact pG_ret (r := some (.int ((-2)))) rfl ⟨rfl, rfl⟩
        · rw [if_neg hc108] at h
          refine pG_iff (t := 26) rfl rfl hc108 ?_
          refine pG_many 1 (pc1 := 25) (L1 := [some (.ref 211), some (.int p0), some (.int p1), none, none, none, none, none]) (st1 := [.int ((-1))]) (M1 := mjTo Z) rfl ?_
          simp only [Option.some.injEq] at h
          subst h
          exact pG_ret (r := some (.int ((-1)))) rfl ⟨rfl, rfl⟩
def f265_crowd_h43 (K : Int32 → Int32 → Int32 → Int32 → Int32 → mjZt → Option Int32) : Nat → Int32 → Int32 → Int32 → Int32 → Int32 → Int32 → Int32 → mjZt → Option Int32
  | 0, _, _, _, _, _, _, _, _ => none
  | n + 1, x1, x2, x3, x4, x5, x6, x7, Z =>
    if mjCmp .ge x7 (Z.1 211 39) = true then
      K x1 x2 x3 x4 x6 Z
    else
      mjBp (f249_placeOf x7 x1 Z) fun v112 =>
      mjBp (f195_isIn (Int32.toInt64 v112) (Int32.toInt64 x5) ((Int32.toInt64 x5) + (Int32.toInt64 x2)) Z) fun v115 =>
      mjBp (f196_truth v115 Z) fun v118 =>
      f265_crowd_h43 K n x1 x2 x3 x4 x5 (x6 + v118) (x7 + 1) Z
set_option maxRecDepth 4000 in
theorem f265_crowd_h43_ok (K : Int32 → Int32 → Int32 → Int32 → Int32 → mjZt → Option Int32) (hK : ∀ (x1 : Int32) (x2 : Int32) (x3 : Int32) (x4 : Int32) (x6 : Int32) (d5 d7 : Option Value) (Z : mjZt) (v9 : Int32), K x1 x2 x3 x4 x6 Z = some v9 → pG 265 86 [some (.ref 211), some (.int x1), some (.int x2), some (.int x3), some (.int x4), d5, some (.int x6), d7] [] (mjTo Z) (fun r M1 => r = some (.int v9) ∧ M1 = mjTo Z)) : ∀ (n : Nat) (x1 : Int32) (x2 : Int32) (x3 : Int32) (x4 : Int32) (x5 : Int32) (x6 : Int32) (x7 : Int32) (Z : mjZt) (v9 : Int32), f265_crowd_h43 K n x1 x2 x3 x4 x5 x6 x7 Z = some v9 → pG 265 43 [some (.ref 211), some (.int x1), some (.int x2), some (.int x3), some (.int x4), some (.int x5), some (.int x6), some (.int x7)] [] (mjTo Z) (fun r M1 => r = some (.int v9) ∧ M1 = mjTo Z)
  | 0, x1, x2, x3, x4, x5, x6, x7, Z, v9, h => by rw [f265_crowd_h43] at h; cases h
  | n + 1, x1, x2, x3, x4, x5, x6, x7, Z, v9, h => by
      rw [f265_crowd_h43] at h
      refine pG_many 2 (pc1 := 46) (L1 := [some (.ref 211), some (.int x1), some (.int x2), some (.int x3), some (.int x4), some (.int x5), some (.int x6), some (.int x7)]) (st1 := [.ref 211, .int x7]) (M1 := mjTo Z) rfl ?_
      refine pG_getI (ci := 12) (f := 39) rfl rfl (Or.inl rfl) (by rfl) ?_
      by_cases hc110 : mjCmp .ge x7 (Z.1 211 39) = true
      · rw [if_pos hc110] at h
        refine pG_cmt (t := 86) rfl rfl hc110 ?_
        exact hK x1 x2 x3 x4 x6 (some (.int x5)) (some (.int x7)) Z v9 h
      · rw [if_neg hc110] at h
        refine pG_cmf (t := 86) rfl rfl hc110 ?_
        refine pG_many 4 (pc1 := 58) (L1 := [some (.ref 211), some (.int x1), some (.int x2), some (.int x3), some (.int x4), some (.int x5), some (.int x6), some (.int x7)]) (st1 := [.int x1, .int x7, .ref 211, .int x6]) (M1 := mjTo Z) rfl ?_
        cases hq111 : f249_placeOf x7 x1 Z with
        | none => rw [hq111] at h; cases h
        | some v112 =>
          rw [hq111, mjBp_some] at h
          refine pG_callV (k2 := 249) (As := [.ref 211, .int x7, .int x1]) (rest := [.int x6]) rfl rfl rfl rfl rfl (by rfl) (by decide) (f249_placeOf_ok hq111) ?_
          rintro r9 M9 ⟨rfl, rfl⟩
          show pG 265 61 [some (.ref 211), some (.int x1), some (.int x2), some (.int x3), some (.int x4), some (.int x5), some (.int x6), some (.int x7)] [.int v112, .int x6] (mjTo Z) _
          refine pG_many 8 (pc1 := 71) (L1 := [some (.ref 211), some (.int x1), some (.int x2), some (.int x3), some (.int x4), some (.int x5), some (.int x6), some (.int x7)]) (st1 := [.long ((Int32.toInt64 x5) + (Int32.toInt64 x2)), .long (Int32.toInt64 x5), .long (Int32.toInt64 v112), .int x6]) (M1 := mjTo Z) rfl ?_
          cases hq114 : f195_isIn (Int32.toInt64 v112) (Int32.toInt64 x5) ((Int32.toInt64 x5) + (Int32.toInt64 x2)) Z with
          | none => rw [hq114] at h; cases h
          | some v115 =>
            rw [hq114, mjBp_some] at h
            refine pG_call (k2 := 195) (As := [.long (Int32.toInt64 v112), .long (Int32.toInt64 x5), .long ((Int32.toInt64 x5) + (Int32.toInt64 x2))]) (rest := [.int x6]) rfl (by decide) (f195_isIn_ok hq114) ?_
            rintro r9 M9 ⟨rfl, rfl⟩
            show pG 265 74 [some (.ref 211), some (.int x1), some (.int x2), some (.int x3), some (.int x4), some (.int x5), some (.int x6), some (.int x7)] [.int v115, .int x6] (mjTo Z) _
            cases hq117 : f196_truth v115 Z with
            | none => rw [hq117] at h; cases h
            | some v118 =>
              rw [hq117, mjBp_some] at h
              refine pG_call (k2 := 196) (As := [.int v115]) (rest := [.int x6]) rfl (by decide) (f196_truth_ok hq117) ?_
              rintro r9 M9 ⟨rfl, rfl⟩
              show pG 265 77 [some (.ref 211), some (.int x1), some (.int x2), some (.int x3), some (.int x4), some (.int x5), some (.int x6), some (.int x7)] [.int v118, .int x6] (mjTo Z) _
              refine pG_many 4 (pc1 := 43) (L1 := [some (.ref 211), some (.int x1), some (.int x2), some (.int x3), some (.int x4), some (.int x5), some (.int (x6 + v118)), some (.int (x7 + 1))]) (st1 := []) (M1 := mjTo Z) rfl ?_
              exact f265_crowd_h43_ok K hK n x1 x2 x3 x4 x5 (x6 + v118) (x7 + 1) Z v9 h
def f265_crowd_h19 : Nat → Int32 → Int32 → Int32 → Int32 → mjZt → Option Int32
  | 0, _, _, _, _, _ => none
  | n + 1, x1, x2, x3, x4, Z =>
    if mjCmp .ge x4 (Z.1 211 39) = true then
      some x3
    else
      mjBp (f249_placeOf x4 x1 Z) fun v108 =>
      f265_crowd_h43 (fun x1_Z120 x2_Z120 x3_Z120 x4_Z120 x6_Z120 Z120 =>
        if mjCmp .le x6_Z120 x3_Z120 = true then
          f265_crowd_h19 n x1_Z120 x2_Z120 x3_Z120 (x4_Z120 + 1) Z120
        else
          f265_crowd_h19 n x1_Z120 x2_Z120 x6_Z120 (x4_Z120 + 1) Z120
        ) mjF x1 x2 x3 x4 v108 0 0 Z
set_option maxRecDepth 4000 in
theorem f265_crowd_h19_ok : ∀ (n : Nat) (x1 : Int32) (x2 : Int32) (x3 : Int32) (x4 : Int32) (d5 d6 d7 : Option Value) (Z : mjZt) (v9 : Int32), f265_crowd_h19 n x1 x2 x3 x4 Z = some v9 → pG 265 19 [some (.ref 211), some (.int x1), some (.int x2), some (.int x3), some (.int x4), d5, d6, d7] [] (mjTo Z) (fun r M1 => r = some (.int v9) ∧ M1 = mjTo Z)
  | 0, x1, x2, x3, x4, d5, d6, d7, Z, v9, h => by rw [f265_crowd_h19] at h; cases h
  | n + 1, x1, x2, x3, x4, d5, d6, d7, Z, v9, h => by
      rw [f265_crowd_h19] at h
      refine pG_many 2 (pc1 := 22) (L1 := [some (.ref 211), some (.int x1), some (.int x2), some (.int x3), some (.int x4), d5, d6, d7]) (st1 := [.ref 211, .int x4]) (M1 := mjTo Z) rfl ?_
      refine pG_getI (ci := 12) (f := 39) rfl rfl (Or.inl rfl) (by rfl) ?_
      by_cases hc106 : mjCmp .ge x4 (Z.1 211 39) = true
      · rw [if_pos hc106] at h
        refine pG_cmt (t := 105) rfl rfl hc106 ?_
        refine pG_many 1 (pc1 := 106) (L1 := [some (.ref 211), some (.int x1), some (.int x2), some (.int x3), some (.int x4), d5, d6, d7]) (st1 := [.int x3]) (M1 := mjTo Z) rfl ?_
        simp only [Option.some.injEq] at h
        subst h
        exact pG_ret (r := some (.int x3)) rfl ⟨rfl, rfl⟩
      · rw [if_neg hc106] at h
        refine pG_cmf (t := 105) rfl rfl hc106 ?_
        refine pG_many 3 (pc1 := 32) (L1 := [some (.ref 211), some (.int x1), some (.int x2), some (.int x3), some (.int x4), d5, d6, d7]) (st1 := [.int x1, .int x4, .ref 211]) (M1 := mjTo Z) rfl ?_
        cases hq107 : f249_placeOf x4 x1 Z with
        | none => rw [hq107] at h; cases h
        | some v108 =>
          rw [hq107, mjBp_some] at h
          refine pG_callV (k2 := 249) (As := [.ref 211, .int x4, .int x1]) (rest := []) rfl rfl rfl rfl rfl (by rfl) (by decide) (f249_placeOf_ok hq107) ?_
          rintro r9 M9 ⟨rfl, rfl⟩
          show pG 265 35 [some (.ref 211), some (.int x1), some (.int x2), some (.int x3), some (.int x4), d5, d6, d7] [.int v108] (mjTo Z) _
          refine pG_many 5 (pc1 := 43) (L1 := [some (.ref 211), some (.int x1), some (.int x2), some (.int x3), some (.int x4), some (.int v108), some (.int 0), some (.int 0)]) (st1 := []) (M1 := mjTo Z) rfl ?_
          refine f265_crowd_h43_ok _ ?_ mjF x1 x2 x3 x4 v108 0 0 Z v9 h
          clear h
          intro x1_Z120 x2_Z120 x3_Z120 x4_Z120 x6_Z120 d5 d7 Z120 v9 h
          refine pG_many 2 (pc1 := 89) (L1 := [some (.ref 211), some (.int x1_Z120), some (.int x2_Z120), some (.int x3_Z120), some (.int x4_Z120), d5, some (.int x6_Z120), d7]) (st1 := [.int x3_Z120, .int x6_Z120]) (M1 := mjTo Z120) rfl ?_
          by_cases hc121 : mjCmp .le x6_Z120 x3_Z120 = true
          · rw [if_pos hc121] at h
            refine pG_cmt (t := 97) rfl rfl hc121 ?_
            refine pG_many 4 (pc1 := 19) (L1 := [some (.ref 211), some (.int x1_Z120), some (.int x2_Z120), some (.int x3_Z120), some (.int (x4_Z120 + 1)), d5, some (.int x6_Z120), d7]) (st1 := []) (M1 := mjTo Z120) rfl ?_
            exact f265_crowd_h19_ok n x1_Z120 x2_Z120 x3_Z120 (x4_Z120 + 1) d5 (some (.int x6_Z120)) d7 Z120 v9 h
          · rw [if_neg hc121] at h
            refine pG_cmf (t := 97) rfl rfl hc121 ?_
            refine pG_many 5 (pc1 := 19) (L1 := [some (.ref 211), some (.int x1_Z120), some (.int x2_Z120), some (.int x6_Z120), some (.int (x4_Z120 + 1)), d5, some (.int x6_Z120), d7]) (st1 := []) (M1 := mjTo Z120) rfl ?_
            exact f265_crowd_h19_ok n x1_Z120 x2_Z120 x6_Z120 (x4_Z120 + 1) d5 (some (.int x6_Z120)) d7 Z120 v9 h
def f265_crowd (p0 : Int32) (p1 : Int32) (Z : mjZt) : Option Int32 :=
  mjBp (f241_isTenth p0 Z) fun v102 =>
  if mjCmp .eq v102 0 = true then
    some ((-1))
  else
    if mjCmp .ge p1 0 = true then
      f265_crowd_h19 mjF p0 p1 0 0 Z
    else
      some ((-1))
set_option maxRecDepth 4000 in
theorem f265_crowd_ok {p0 : Int32} {p1 : Int32} {Z : mjZt} {v9 : Int32} (h : f265_crowd p0 p1 Z = some v9) : pG 265 0 (mjEnt [.ref 211, .int p0, .int p1] (mjML 265)) [] (mjTo Z) (fun r M1 => r = some (.int v9) ∧ M1 = mjTo Z) := by
  unfold f265_crowd at h
  show pG 265 0 [some (.ref 211), some (.int p0), some (.int p1), none, none, none, none, none] [] (mjTo Z) _
  refine pG_many 2 (pc1 := 2) (L1 := [some (.ref 211), some (.int p0), some (.int p1), none, none, none, none, none]) (st1 := [.int p0, .ref 211]) (M1 := mjTo Z) rfl ?_
  cases hq101 : f241_isTenth p0 Z with
  | none => rw [hq101] at h; cases h
  | some v102 =>
    rw [hq101, mjBp_some] at h
    refine pG_callV (k2 := 241) (As := [.ref 211, .int p0]) (rest := []) rfl rfl rfl rfl rfl (by rfl) (by decide) (f241_isTenth_ok hq101) ?_
    rintro r9 M9 ⟨rfl, rfl⟩
    show pG 265 5 [some (.ref 211), some (.int p0), some (.int p1), none, none, none, none, none] [.int v102] (mjTo Z) _
    by_cases hc104 : mjCmp .eq v102 0 = true
    · rw [if_pos hc104] at h
      refine pG_ift (t := 12) rfl rfl hc104 ?_
      refine pG_many 1 (pc1 := 13) (L1 := [some (.ref 211), some (.int p0), some (.int p1), none, none, none, none, none]) (st1 := [.int ((-1))]) (M1 := mjTo Z) rfl ?_
      simp only [Option.some.injEq] at h
      subst h
      exact pG_ret (r := some (.int ((-1)))) rfl ⟨rfl, rfl⟩
    · rw [if_neg hc104] at h
      refine pG_iff (t := 12) rfl rfl hc104 ?_
      refine pG_many 1 (pc1 := 9) (L1 := [some (.ref 211), some (.int p0), some (.int p1), none, none, none, none, none]) (st1 := [.int p1]) (M1 := mjTo Z) rfl ?_
      by_cases hc105 : mjCmp .ge p1 0 = true
      · rw [if_pos hc105] at h
        refine pG_ift (t := 14) rfl rfl hc105 ?_
        refine pG_many 4 (pc1 := 19) (L1 := [some (.ref 211), some (.int p0), some (.int p1), some (.int 0), some (.int 0), none, none, none]) (st1 := []) (M1 := mjTo Z) rfl ?_
        exact f265_crowd_h19_ok mjF p0 p1 0 0 none none none Z v9 h
      · rw [if_neg hc105] at h
        refine pG_iff (t := 14) rfl rfl hc105 ?_
        refine pG_many 1 (pc1 := 13) (L1 := [some (.ref 211), some (.int p0), some (.int p1), none, none, none, none, none]) (st1 := [.int ((-1))]) (M1 := mjTo Z) rfl ?_
        simp only [Option.some.injEq] at h
        subst h
        exact pG_ret (r := some (.int ((-1)))) rfl ⟨rfl, rfl⟩
def f266_fastest_j99 (R : Int32 → Int32 → Int32 → Int32 → Int32 → mjZt → Option Int32) (x1 : Int32) (x2 : Int32) (x3 : Int32) (x4 : Int32) (x5 : Int32) (s0 : Int32) (Z : mjZt) : Option Int32 :=
  if mjCmp .gt s0 0 = true then
    R x1 x2 x5 x4 (x5 + 1) Z
  else
    if mjCmp .ne s0 0 = true then
      R x1 x2 x3 x4 (x5 + 1) Z
    else
      if mjIn x5 6 = true then
      if mjIn x3 6 = true then
      if mjCmp .ge (Z.1 230 (mjIx x5)) (Z.1 230 (mjIx x3)) = true then
        R x1 x2 x3 x4 (x5 + 1) Z
      else
        R x1 x2 x5 x4 (x5 + 1) Z
      else none
      else none
set_option maxRecDepth 4000 in
theorem f266_fastest_j99_ok (R : Int32 → Int32 → Int32 → Int32 → Int32 → mjZt → Option Int32) (hR : ∀ (x1 : Int32) (x2 : Int32) (x3 : Int32) (x4 : Int32) (x5 : Int32) (d6 d7 : Option Value) (Z : mjZt) (v9 : Int32), R x1 x2 x3 x4 x5 Z = some v9 → pG 266 38 [some (.ref 211), some (.int x1), some (.int x2), some (.int x3), some (.int x4), some (.int x5), d6, d7] [] (mjTo Z) (fun r M1 => r = some (.int v9) ∧ M1 = mjTo Z)) (x1 : Int32) (x2 : Int32) (x3 : Int32) (x4 : Int32) (x5 : Int32) (s0 : Int32) (d6 d7 : Option Value) (Z : mjZt) (v9 : Int32) (h : f266_fastest_j99 R x1 x2 x3 x4 x5 s0 Z = some v9) : pG 266 99 [some (.ref 211), some (.int x1), some (.int x2), some (.int x3), some (.int x4), some (.int x5), d6, d7] [.int s0] (mjTo Z) (fun r M1 => r = some (.int v9) ∧ M1 = mjTo Z) := by
  unfold f266_fastest_j99 at h
  refine pG_many 2 (pc1 := 103) (L1 := [some (.ref 211), some (.int x1), some (.int x2), some (.int x3), some (.int x4), some (.int x5), (mjK1 d6), some (.int s0)]) (st1 := [.int s0]) (M1 := mjTo Z) rfl ?_
  by_cases hc125 : mjCmp .gt s0 0 = true
  · rw [if_pos hc125] at h
    refine pG_ift (t := 127) rfl rfl hc125 ?_
    refine pG_many 4 (pc1 := 38) (L1 := [some (.ref 211), some (.int x1), some (.int x2), some (.int x5), some (.int x4), some (.int (x5 + 1)), (mjK1 d6), some (.int s0)]) (st1 := []) (M1 := mjTo Z) rfl ?_
    exact hR x1 x2 x5 x4 (x5 + 1) ((mjK1 d6)) (some (.int s0)) Z v9 h
  · rw [if_neg hc125] at h
    refine pG_iff (t := 127) rfl rfl hc125 ?_
    refine pG_many 1 (pc1 := 108) (L1 := [some (.ref 211), some (.int x1), some (.int x2), some (.int x3), some (.int x4), some (.int x5), (mjK1 d6), some (.int s0)]) (st1 := [.int s0]) (M1 := mjTo Z) rfl ?_
    by_cases hc126 : mjCmp .ne s0 0 = true
    · rw [if_pos hc126] at h
      refine pG_ift (t := 130) rfl rfl hc126 ?_
      refine pG_many 2 (pc1 := 38) (L1 := [some (.ref 211), some (.int x1), some (.int x2), some (.int x3), some (.int x4), some (.int (x5 + 1)), (mjK1 d6), some (.int s0)]) (st1 := []) (M1 := mjTo Z) rfl ?_
      exact hR x1 x2 x3 x4 (x5 + 1) ((mjK1 d6)) (some (.int s0)) Z v9 h
    · rw [if_neg hc126] at h
      refine pG_iff (t := 130) rfl rfl hc126 ?_
      refine pG_many 1 (pc1 := 112) (L1 := [some (.ref 211), some (.int x1), some (.int x2), some (.int x3), some (.int x4), some (.int x5), (mjK1 d6), some (.int s0)]) (st1 := [.ref 211]) (M1 := mjTo Z) rfl ?_
      refine pG_getR (ci := 12) (f := 45) (b := 230) rfl rfl rfl (by rfl) rfl ?_
      refine pG_many 1 (pc1 := 117) (L1 := [some (.ref 211), some (.int x1), some (.int x2), some (.int x3), some (.int x4), some (.int x5), (mjK1 d6), some (.int s0)]) (st1 := [.int x5, .ref 230]) (M1 := mjTo Z) rfl ?_
      have hk127 : mjIn x5 6 = true := by
        by_cases q9 : mjIn x5 6 = true
        · exact q9
        · rw [if_neg q9] at h; cases h
      rw [if_pos hk127] at h
      refine pG_ial rfl (by rfl) hk127 ?_
      refine pG_many 1 (pc1 := 119) (L1 := [some (.ref 211), some (.int x1), some (.int x2), some (.int x3), some (.int x4), some (.int x5), (mjK1 d6), some (.int s0)]) (st1 := [.ref 211, .int (Z.1 230 (mjIx x5))]) (M1 := mjTo Z) rfl ?_
      refine pG_getR (ci := 12) (f := 45) (b := 230) rfl rfl rfl (by rfl) rfl ?_
      refine pG_many 1 (pc1 := 123) (L1 := [some (.ref 211), some (.int x1), some (.int x2), some (.int x3), some (.int x4), some (.int x5), (mjK1 d6), some (.int s0)]) (st1 := [.int x3, .ref 230, .int (Z.1 230 (mjIx x5))]) (M1 := mjTo Z) rfl ?_
      have hk128 : mjIn x3 6 = true := by
        by_cases q9 : mjIn x3 6 = true
        · exact q9
        · rw [if_neg q9] at h; cases h
      rw [if_pos hk128] at h
      refine pG_ial rfl (by rfl) hk128 ?_
      by_cases hc129 : mjCmp .ge (Z.1 230 (mjIx x5)) (Z.1 230 (mjIx x3)) = true
      · rw [if_pos hc129] at h
        refine pG_cmt (t := 130) rfl rfl hc129 ?_
        refine pG_many 2 (pc1 := 38) (L1 := [some (.ref 211), some (.int x1), some (.int x2), some (.int x3), some (.int x4), some (.int (x5 + 1)), (mjK1 d6), some (.int s0)]) (st1 := []) (M1 := mjTo Z) rfl ?_
        exact hR x1 x2 x3 x4 (x5 + 1) ((mjK1 d6)) (some (.int s0)) Z v9 h
      · rw [if_neg hc129] at h
        refine pG_cmf (t := 130) rfl rfl hc129 ?_
        refine pG_many 4 (pc1 := 38) (L1 := [some (.ref 211), some (.int x1), some (.int x2), some (.int x5), some (.int x4), some (.int (x5 + 1)), (mjK1 d6), some (.int s0)]) (st1 := []) (M1 := mjTo Z) rfl ?_
        exact hR x1 x2 x5 x4 (x5 + 1) ((mjK1 d6)) (some (.int s0)) Z v9 h
def f266_fastest_h38 : Nat → Int32 → Int32 → Int32 → Int32 → Int32 → mjZt → Option Int32
  | 0, _, _, _, _, _, _ => none
  | n + 1, x1, x2, x3, x4, x5, Z =>
    if mjCmp .ge x5 (Z.1 211 39) = true then
      if mjCmp .ne x3 ((-1)) = true then
        if mjCmp .ne x2 0 = true then
          if mjCmp .ne x2 1 = true then
            some x4
          else
            mjBp (f242_tenthsOf x3 (x1 - 1) Z) fun v114 =>
            some v114
        else
          some x3
      else
        some ((-1))
    else
      if mjIn x5 6 = true then
      if mjCmp .ge (Z.1 231 (mjIx x5)) x1 = true then
        mjBp (f242_tenthsOf x5 (x1 - 1) Z) fun v119 =>
        if mjCmp .ne x3 ((-1)) = true then
          mjBp (f242_tenthsOf x3 (x1 - 1) Z) fun v123 =>
          f266_fastest_j99 (f266_fastest_h38 n) x1 x2 x3 (x4 + v119) x5 (v123 - v119) Z
        else
          f266_fastest_j99 (f266_fastest_h38 n) x1 x2 x3 (x4 + v119) x5 1 Z
      else
        f266_fastest_h38 n x1 x2 x3 x4 (x5 + 1) Z
      else none
set_option maxRecDepth 4000 in
theorem f266_fastest_h38_ok : ∀ (n : Nat) (x1 : Int32) (x2 : Int32) (x3 : Int32) (x4 : Int32) (x5 : Int32) (d6 d7 : Option Value) (Z : mjZt) (v9 : Int32), f266_fastest_h38 n x1 x2 x3 x4 x5 Z = some v9 → pG 266 38 [some (.ref 211), some (.int x1), some (.int x2), some (.int x3), some (.int x4), some (.int x5), d6, d7] [] (mjTo Z) (fun r M1 => r = some (.int v9) ∧ M1 = mjTo Z)
  | 0, x1, x2, x3, x4, x5, d6, d7, Z, v9, h => by rw [f266_fastest_h38] at h; cases h
  | n + 1, x1, x2, x3, x4, x5, d6, d7, Z, v9, h => by
      rw [f266_fastest_h38] at h
      refine pG_many 2 (pc1 := 41) (L1 := [some (.ref 211), some (.int x1), some (.int x2), some (.int x3), some (.int x4), some (.int x5), d6, d7]) (st1 := [.ref 211, .int x5]) (M1 := mjTo Z) rfl ?_
      refine pG_getI (ci := 12) (f := 39) rfl rfl (Or.inl rfl) (by rfl) ?_
      by_cases hc109 : mjCmp .ge x5 (Z.1 211 39) = true
      · rw [if_pos hc109] at h
        refine pG_cmt (t := 136) rfl rfl hc109 ?_
        refine pG_many 2 (pc1 := 138) (L1 := [some (.ref 211), some (.int x1), some (.int x2), some (.int x3), some (.int x4), some (.int x5), d6, d7]) (st1 := [.int ((-1)), .int x3]) (M1 := mjTo Z) rfl ?_
        by_cases hc110 : mjCmp .ne x3 ((-1)) = true
        · rw [if_pos hc110] at h
          refine pG_cmt (t := 143) rfl rfl hc110 ?_
          refine pG_many 1 (pc1 := 144) (L1 := [some (.ref 211), some (.int x1), some (.int x2), some (.int x3), some (.int x4), some (.int x5), d6, d7]) (st1 := [.int x2]) (M1 := mjTo Z) rfl ?_
          by_cases hc111 : mjCmp .ne x2 0 = true
          · rw [if_pos hc111] at h
            refine pG_ift (t := 151) rfl rfl hc111 ?_
            refine pG_many 2 (pc1 := 153) (L1 := [some (.ref 211), some (.int x1), some (.int x2), some (.int x3), some (.int x4), some (.int x5), d6, d7]) (st1 := [.int 1, .int x2]) (M1 := mjTo Z) rfl ?_
            by_cases hc112 : mjCmp .ne x2 1 = true
            · rw [if_pos hc112] at h
              refine pG_cmt (t := 167) rfl rfl hc112 ?_
              refine pG_many 1 (pc1 := 169) (L1 := [some (.ref 211), some (.int x1), some (.int x2), some (.int x3), some (.int x4), some (.int x5), d6, d7]) (st1 := [.int x4]) (M1 := mjTo Z) rfl ?_
              simp only [Option.some.injEq] at h
              subst h
              exact pG_ret (r := some (.int x4)) rfl ⟨rfl, rfl⟩
            · rw [if_neg hc112] at h
              refine pG_cmf (t := 167) rfl rfl hc112 ?_
              refine pG_many 5 (pc1 := 161) (L1 := [some (.ref 211), some (.int x1), some (.int x2), some (.int x3), some (.int x4), some (.int x5), d6, d7]) (st1 := [.int (x1 - 1), .int x3, .ref 211]) (M1 := mjTo Z) rfl ?_
              cases hq113 : f242_tenthsOf x3 (x1 - 1) Z with
              | none => rw [hq113] at h; cases h
              | some v114 =>
                rw [hq113, mjBp_some] at h
                refine pG_callV (k2 := 242) (As := [.ref 211, .int x3, .int (x1 - 1)]) (rest := []) rfl rfl rfl rfl rfl (by rfl) (by decide) (f242_tenthsOf_ok hq113) ?_
                rintro r9 M9 ⟨rfl, rfl⟩
                show pG 266 164 [some (.ref 211), some (.int x1), some (.int x2), some (.int x3), some (.int x4), some (.int x5), d6, d7] [.int v114] (mjTo Z) _
                refine pG_many 1 (pc1 := 169) (L1 := [some (.ref 211), some (.int x1), some (.int x2), some (.int x3), some (.int x4), some (.int x5), d6, d7]) (st1 := [.int v114]) (M1 := mjTo Z) rfl ?_
                simp only [Option.some.injEq] at h
                subst h
                exact pG_ret (r := some (.int v114)) rfl ⟨rfl, rfl⟩
          · rw [if_neg hc111] at h
            refine pG_iff (t := 151) rfl rfl hc111 ?_
            refine pG_many 2 (pc1 := 169) (L1 := [some (.ref 211), some (.int x1), some (.int x2), some (.int x3), some (.int x4), some (.int x5), d6, d7]) (st1 := [.int x3]) (M1 := mjTo Z) rfl ?_
            simp only [Option.some.injEq] at h
            subst h
            exact pG_ret (r := some (.int x3)) rfl ⟨rfl, rfl⟩
        · rw [if_neg hc110] at h
          refine pG_cmf (t := 143) rfl rfl hc110 ?_
          refine pG_many 1 (pc1 := 142) (L1 := [some (.ref 211), some (.int x1), some (.int x2), some (.int x3), some (.int x4), some (.int x5), d6, d7]) (st1 := [.int ((-1))]) (M1 := mjTo Z) rfl ?_
          simp only [Option.some.injEq] at h
          subst h
          exact pG_ret (r := some (.int ((-1)))) rfl ⟨rfl, rfl⟩
      · rw [if_neg hc109] at h
        refine pG_cmf (t := 136) rfl rfl hc109 ?_
        refine pG_many 1 (pc1 := 48) (L1 := [some (.ref 211), some (.int x1), some (.int x2), some (.int x3), some (.int x4), some (.int x5), d6, d7]) (st1 := [.ref 211]) (M1 := mjTo Z) rfl ?_
        refine pG_getR (ci := 12) (f := 46) (b := 231) rfl rfl rfl (by rfl) rfl ?_
        refine pG_many 1 (pc1 := 53) (L1 := [some (.ref 211), some (.int x1), some (.int x2), some (.int x3), some (.int x4), some (.int x5), d6, d7]) (st1 := [.int x5, .ref 231]) (M1 := mjTo Z) rfl ?_
        have hk116 : mjIn x5 6 = true := by
          by_cases q9 : mjIn x5 6 = true
          · exact q9
          · rw [if_neg q9] at h; cases h
        rw [if_pos hk116] at h
        refine pG_ial rfl (by rfl) hk116 ?_
        refine pG_many 1 (pc1 := 55) (L1 := [some (.ref 211), some (.int x1), some (.int x2), some (.int x3), some (.int x4), some (.int x5), d6, d7]) (st1 := [.int x1, .int (Z.1 231 (mjIx x5))]) (M1 := mjTo Z) rfl ?_
        by_cases hc117 : mjCmp .ge (Z.1 231 (mjIx x5)) x1 = true
        · rw [if_pos hc117] at h
          refine pG_cmt (t := 61) rfl rfl hc117 ?_
          refine pG_many 5 (pc1 := 67) (L1 := [some (.ref 211), some (.int x1), some (.int x2), some (.int x3), some (.int x4), some (.int x5), d6, d7]) (st1 := [.int (x1 - 1), .int x5, .ref 211]) (M1 := mjTo Z) rfl ?_
          cases hq118 : f242_tenthsOf x5 (x1 - 1) Z with
          | none => rw [hq118] at h; cases h
          | some v119 =>
            rw [hq118, mjBp_some] at h
            refine pG_callV (k2 := 242) (As := [.ref 211, .int x5, .int (x1 - 1)]) (rest := []) rfl rfl rfl rfl rfl (by rfl) (by decide) (f242_tenthsOf_ok hq118) ?_
            rintro r9 M9 ⟨rfl, rfl⟩
            show pG 266 70 [some (.ref 211), some (.int x1), some (.int x2), some (.int x3), some (.int x4), some (.int x5), d6, d7] [.int v119] (mjTo Z) _
            refine pG_many 7 (pc1 := 81) (L1 := [some (.ref 211), some (.int x1), some (.int x2), some (.int x3), some (.int (x4 + v119)), some (.int x5), some (.int v119), d7]) (st1 := [.int ((-1)), .int x3]) (M1 := mjTo Z) rfl ?_
            by_cases hc121 : mjCmp .ne x3 ((-1)) = true
            · rw [if_pos hc121] at h
              refine pG_cmt (t := 88) rfl rfl hc121 ?_
              refine pG_many 5 (pc1 := 93) (L1 := [some (.ref 211), some (.int x1), some (.int x2), some (.int x3), some (.int (x4 + v119)), some (.int x5), some (.int v119), d7]) (st1 := [.int (x1 - 1), .int x3, .ref 211]) (M1 := mjTo Z) rfl ?_
              cases hq122 : f242_tenthsOf x3 (x1 - 1) Z with
              | none => rw [hq122] at h; cases h
              | some v123 =>
                rw [hq122, mjBp_some] at h
                refine pG_callV (k2 := 242) (As := [.ref 211, .int x3, .int (x1 - 1)]) (rest := []) rfl rfl rfl rfl rfl (by rfl) (by decide) (f242_tenthsOf_ok hq122) ?_
                rintro r9 M9 ⟨rfl, rfl⟩
                show pG 266 96 [some (.ref 211), some (.int x1), some (.int x2), some (.int x3), some (.int (x4 + v119)), some (.int x5), some (.int v119), d7] [.int v123] (mjTo Z) _
                refine pG_many 2 (pc1 := 99) (L1 := [some (.ref 211), some (.int x1), some (.int x2), some (.int x3), some (.int (x4 + v119)), some (.int x5), some (.int v119), d7]) (st1 := [.int (v123 - v119)]) (M1 := mjTo Z) rfl ?_
                exact f266_fastest_j99_ok (f266_fastest_h38 n) (fun x1 x2 x3 x4 x5 d6 d7 Z v9 h => f266_fastest_h38_ok n x1 x2 x3 x4 x5 d6 d7 Z v9 h) x1 x2 x3 (x4 + v119) x5 (v123 - v119) (some (.int v119)) d7 Z v9 h
            · rw [if_neg hc121] at h
              refine pG_cmf (t := 88) rfl rfl hc121 ?_
              refine pG_many 2 (pc1 := 99) (L1 := [some (.ref 211), some (.int x1), some (.int x2), some (.int x3), some (.int (x4 + v119)), some (.int x5), some (.int v119), d7]) (st1 := [.int 1]) (M1 := mjTo Z) rfl ?_
              exact f266_fastest_j99_ok (f266_fastest_h38 n) (fun x1 x2 x3 x4 x5 d6 d7 Z v9 h => f266_fastest_h38_ok n x1 x2 x3 x4 x5 d6 d7 Z v9 h) x1 x2 x3 (x4 + v119) x5 1 (some (.int v119)) d7 Z v9 h
        · rw [if_neg hc117] at h
          refine pG_cmf (t := 61) rfl rfl hc117 ?_
          refine pG_many 3 (pc1 := 38) (L1 := [some (.ref 211), some (.int x1), some (.int x2), some (.int x3), some (.int x4), some (.int (x5 + 1)), d6, d7]) (st1 := []) (M1 := mjTo Z) rfl ?_
          exact f266_fastest_h38_ok n x1 x2 x3 x4 (x5 + 1) d6 d7 Z v9 h
def f266_fastest (p0 : Int32) (p1 : Int32) (Z : mjZt) : Option Int32 :=
  mjBp (f195_isIn (Int32.toInt64 p0) 1 (Int32.toInt64 (Z.1 229 0)) Z) fun v102 =>
  if mjCmp .eq v102 0 = true then
    some ((-1))
  else
    mjBp (f195_isIn (Int32.toInt64 p1) 0 2 Z) fun v106 =>
    if mjCmp .ne v106 0 = true then
      f266_fastest_h38 mjF p0 p1 ((-1)) 0 0 Z
    else
      some ((-1))
set_option maxRecDepth 4000 in
theorem f266_fastest_ok {p0 : Int32} {p1 : Int32} {Z : mjZt} {v9 : Int32} (h : f266_fastest p0 p1 Z = some v9) : pG 266 0 (mjEnt [.ref 211, .int p0, .int p1] (mjML 266)) [] (mjTo Z) (fun r M1 => r = some (.int v9) ∧ M1 = mjTo Z) := by
  unfold f266_fastest at h
  show pG 266 0 [some (.ref 211), some (.int p0), some (.int p1), none, none, none, none, none] [] (mjTo Z) _
  refine pG_many 4 (pc1 := 4) (L1 := [some (.ref 211), some (.int p0), some (.int p1), none, none, none, none, none]) (st1 := [.ref 211, .long 1, .long (Int32.toInt64 p0)]) (M1 := mjTo Z) rfl ?_
  refine pG_getR (ci := 12) (f := 44) (b := 229) rfl rfl rfl (by rfl) rfl ?_
  refine pG_many 1 (pc1 := 8) (L1 := [some (.ref 211), some (.int p0), some (.int p1), none, none, none, none, none]) (st1 := [.int 0, .ref 229, .long 1, .long (Int32.toInt64 p0)]) (M1 := mjTo Z) rfl ?_
  refine pG_ial rfl (by rfl) (by decide) ?_
  refine pG_many 1 (pc1 := 10) (L1 := [some (.ref 211), some (.int p0), some (.int p1), none, none, none, none, none]) (st1 := [.long (Int32.toInt64 (Z.1 229 0)), .long 1, .long (Int32.toInt64 p0)]) (M1 := mjTo Z) rfl ?_
  cases hq101 : f195_isIn (Int32.toInt64 p0) 1 (Int32.toInt64 (Z.1 229 0)) Z with
  | none => rw [hq101] at h; cases h
  | some v102 =>
    rw [hq101, mjBp_some] at h
    refine pG_call (k2 := 195) (As := [.long (Int32.toInt64 p0), .long 1, .long (Int32.toInt64 (Z.1 229 0))]) (rest := []) rfl (by decide) (f195_isIn_ok hq101) ?_
    rintro r9 M9 ⟨rfl, rfl⟩
    show pG 266 13 [some (.ref 211), some (.int p0), some (.int p1), none, none, none, none, none] [.int v102] (mjTo Z) _
    by_cases hc104 : mjCmp .eq v102 0 = true
    · rw [if_pos hc104] at h
      refine pG_ift (t := 28) rfl rfl hc104 ?_
      refine pG_many 1 (pc1 := 29) (L1 := [some (.ref 211), some (.int p0), some (.int p1), none, none, none, none, none]) (st1 := [.int ((-1))]) (M1 := mjTo Z) rfl ?_
      simp only [Option.some.injEq] at h
      subst h
      exact pG_ret (r := some (.int ((-1)))) rfl ⟨rfl, rfl⟩
    · rw [if_neg hc104] at h
      refine pG_iff (t := 28) rfl rfl hc104 ?_
      refine pG_many 4 (pc1 := 22) (L1 := [some (.ref 211), some (.int p0), some (.int p1), none, none, none, none, none]) (st1 := [.long 2, .long 0, .long (Int32.toInt64 p1)]) (M1 := mjTo Z) rfl ?_
      cases hq105 : f195_isIn (Int32.toInt64 p1) 0 2 Z with
      | none => rw [hq105] at h; cases h
      | some v106 =>
        rw [hq105, mjBp_some] at h
        refine pG_call (k2 := 195) (As := [.long (Int32.toInt64 p1), .long 0, .long 2]) (rest := []) rfl (by decide) (f195_isIn_ok hq105) ?_
        rintro r9 M9 ⟨rfl, rfl⟩
        show pG 266 25 [some (.ref 211), some (.int p0), some (.int p1), none, none, none, none, none] [.int v106] (mjTo Z) _
        by_cases hc108 : mjCmp .ne v106 0 = true
        · rw [if_pos hc108] at h
          refine pG_ift (t := 30) rfl rfl hc108 ?_
          refine pG_many 6 (pc1 := 38) (L1 := [some (.ref 211), some (.int p0), some (.int p1), some (.int ((-1))), some (.int 0), some (.int 0), none, none]) (st1 := []) (M1 := mjTo Z) rfl ?_
          exact f266_fastest_h38_ok mjF p0 p1 ((-1)) 0 0 none none Z v9 h
        · rw [if_neg hc108] at h
          refine pG_iff (t := 30) rfl rfl hc108 ?_
          refine pG_many 1 (pc1 := 29) (L1 := [some (.ref 211), some (.int p0), some (.int p1), none, none, none, none, none]) (st1 := [.int ((-1))]) (M1 := mjTo Z) rfl ?_
          simp only [Option.some.injEq] at h
          subst h
          exact pG_ret (r := some (.int ((-1)))) rfl ⟨rfl, rfl⟩
def f267_inBoxOf_j92 (x4 : Int32) (s0 : Int32) (Z : mjZt) : Option Int32 :=
  if mjCmp .le s0 x4 = true then
    some 0
  else
    some (s0 - x4)
set_option maxRecDepth 4000 in
theorem f267_inBoxOf_j92_ok (x4 : Int32) (s0 : Int32) (d0 d1 d2 d3 d5 d6 d7 : Option Value) (Z : mjZt) (v9 : Int32) (h : f267_inBoxOf_j92 x4 s0 Z = some v9) : pG 267 92 [d0, d1, d2, d3, some (.int x4), d5, d6, d7] [.int s0] (mjTo Z) (fun r M1 => r = some (.int v9) ∧ M1 = mjTo Z) := by
  unfold f267_inBoxOf_j92 at h
  refine pG_many 3 (pc1 := 98) (L1 := [d0, d1, d2, d3, some (.int x4), some (.int s0), d6, d7]) (st1 := [.int x4, .int s0]) (M1 := mjTo Z) rfl ?_
  by_cases hc109 : mjCmp .le s0 x4 = true
  · rw [if_pos hc109] at h
    refine pG_cmt (t := 109) rfl rfl hc109 ?_
    refine pG_many 1 (pc1 := 110) (L1 := [d0, d1, d2, d3, some (.int x4), some (.int s0), d6, d7]) (st1 := [.int 0]) (M1 := mjTo Z) rfl ?_
    simp only [Option.some.injEq] at h
    subst h
    exact pG_ret (r := some (.int 0)) rfl ⟨rfl, rfl⟩
  · rw [if_neg hc109] at h
    refine pG_cmf (t := 109) rfl rfl hc109 ?_
    refine pG_many 4 (pc1 := 110) (L1 := [d0, d1, d2, d3, some (.int x4), some (.int s0), d6, d7]) (st1 := [.int (s0 - x4)]) (M1 := mjTo Z) rfl ?_
    simp only [Option.some.injEq] at h
    subst h
    exact pG_ret (r := some (.int (s0 - x4))) rfl ⟨rfl, rfl⟩
def f267_inBoxOf_j76 (x5 : Int32) (x7 : Int32) (s0 : Int32) (Z : mjZt) : Option Int32 :=
  if mjCmp .ge x7 x5 = true then
    f267_inBoxOf_j92 s0 x5 Z
  else
    f267_inBoxOf_j92 s0 x7 Z
set_option maxRecDepth 4000 in
theorem f267_inBoxOf_j76_ok (x5 : Int32) (x7 : Int32) (s0 : Int32) (d0 d1 d2 d3 d4 d6 : Option Value) (Z : mjZt) (v9 : Int32) (h : f267_inBoxOf_j76 x5 x7 s0 Z = some v9) : pG 267 76 [d0, d1, d2, d3, d4, some (.int x5), d6, some (.int x7)] [.int s0] (mjTo Z) (fun r M1 => r = some (.int v9) ∧ M1 = mjTo Z) := by
  unfold f267_inBoxOf_j76 at h
  refine pG_many 3 (pc1 := 82) (L1 := [d0, d1, d2, (mjK1 d3), some (.int s0), some (.int x5), d6, some (.int x7)]) (st1 := [.int x5, .int x7]) (M1 := mjTo Z) rfl ?_
  by_cases hc108 : mjCmp .ge x7 x5 = true
  · rw [if_pos hc108] at h
    refine pG_cmt (t := 90) rfl rfl hc108 ?_
    refine pG_many 1 (pc1 := 92) (L1 := [d0, d1, d2, (mjK1 d3), some (.int s0), some (.int x5), d6, some (.int x7)]) (st1 := [.int x5]) (M1 := mjTo Z) rfl ?_
    exact f267_inBoxOf_j92_ok s0 x5 d0 d1 d2 ((mjK1 d3)) (some (.int x5)) d6 (some (.int x7)) Z v9 h
  · rw [if_neg hc108] at h
    refine pG_cmf (t := 90) rfl rfl hc108 ?_
    refine pG_many 2 (pc1 := 92) (L1 := [d0, d1, d2, (mjK1 d3), some (.int s0), some (.int x5), d6, some (.int x7)]) (st1 := [.int x7]) (M1 := mjTo Z) rfl ?_
    exact f267_inBoxOf_j92_ok s0 x7 d0 d1 d2 ((mjK1 d3)) (some (.int x5)) d6 (some (.int x7)) Z v9 h
def f267_inBoxOf (p0 : Int32) (p1 : Int32) (p2 : Int32) (Z : mjZt) : Option Int32 :=
  mjBp (f244_endPlace p0 (p1 - 1) Z) fun v102 =>
  mjBp (f244_endPlace p0 p1 Z) fun v105 =>
  if mjCmp .le v102 (10 * (((p2 + 1) * (Z.1 229 1)) - (Z.1 229 2))) = true then
    f267_inBoxOf_j76 (10 * (((p2 + 1) * (Z.1 229 1)) + (Z.1 229 3))) v105 (10 * (((p2 + 1) * (Z.1 229 1)) - (Z.1 229 2))) Z
  else
    f267_inBoxOf_j76 (10 * (((p2 + 1) * (Z.1 229 1)) + (Z.1 229 3))) v105 v102 Z
set_option maxRecDepth 4000 in
theorem f267_inBoxOf_ok {p0 : Int32} {p1 : Int32} {p2 : Int32} {Z : mjZt} {v9 : Int32} (h : f267_inBoxOf p0 p1 p2 Z = some v9) : pG 267 0 (mjEnt [.ref 211, .int p0, .int p1, .int p2] (mjML 267)) [] (mjTo Z) (fun r M1 => r = some (.int v9) ∧ M1 = mjTo Z) := by
  unfold f267_inBoxOf at h
  show pG 267 0 [some (.ref 211), some (.int p0), some (.int p1), some (.int p2), none, none, none, none] [] (mjTo Z) _
  refine pG_many 5 (pc1 := 6) (L1 := [some (.ref 211), some (.int p0), some (.int p1), some (.int p2), none, none, none, none]) (st1 := [.ref 211, .int (p2 + 1), .int 10]) (M1 := mjTo Z) rfl ?_
  refine pG_getR (ci := 12) (f := 44) (b := 229) rfl rfl rfl (by rfl) rfl ?_
  refine pG_many 1 (pc1 := 10) (L1 := [some (.ref 211), some (.int p0), some (.int p1), some (.int p2), none, none, none, none]) (st1 := [.int 1, .ref 229, .int (p2 + 1), .int 10]) (M1 := mjTo Z) rfl ?_
  refine pG_ial rfl (by rfl) (by decide) ?_
  refine pG_many 2 (pc1 := 13) (L1 := [some (.ref 211), some (.int p0), some (.int p1), some (.int p2), none, none, none, none]) (st1 := [.ref 211, .int ((p2 + 1) * (Z.1 229 1)), .int 10]) (M1 := mjTo Z) rfl ?_
  refine pG_getR (ci := 12) (f := 44) (b := 229) rfl rfl rfl (by rfl) rfl ?_
  refine pG_many 1 (pc1 := 17) (L1 := [some (.ref 211), some (.int p0), some (.int p1), some (.int p2), none, none, none, none]) (st1 := [.int 2, .ref 229, .int ((p2 + 1) * (Z.1 229 1)), .int 10]) (M1 := mjTo Z) rfl ?_
  refine pG_ial rfl (by rfl) (by decide) ?_
  refine pG_many 8 (pc1 := 28) (L1 := [some (.ref 211), some (.int p0), some (.int p1), some (.int p2), some (.int (10 * (((p2 + 1) * (Z.1 229 1)) - (Z.1 229 2)))), none, none, none]) (st1 := [.ref 211, .int (p2 + 1), .int 10]) (M1 := mjTo Z) rfl ?_
  refine pG_getR (ci := 12) (f := 44) (b := 229) rfl rfl rfl (by rfl) rfl ?_
  refine pG_many 1 (pc1 := 32) (L1 := [some (.ref 211), some (.int p0), some (.int p1), some (.int p2), some (.int (10 * (((p2 + 1) * (Z.1 229 1)) - (Z.1 229 2)))), none, none, none]) (st1 := [.int 1, .ref 229, .int (p2 + 1), .int 10]) (M1 := mjTo Z) rfl ?_
  refine pG_ial rfl (by rfl) (by decide) ?_
  refine pG_many 2 (pc1 := 35) (L1 := [some (.ref 211), some (.int p0), some (.int p1), some (.int p2), some (.int (10 * (((p2 + 1) * (Z.1 229 1)) - (Z.1 229 2)))), none, none, none]) (st1 := [.ref 211, .int ((p2 + 1) * (Z.1 229 1)), .int 10]) (M1 := mjTo Z) rfl ?_
  refine pG_getR (ci := 12) (f := 44) (b := 229) rfl rfl rfl (by rfl) rfl ?_
  refine pG_many 1 (pc1 := 39) (L1 := [some (.ref 211), some (.int p0), some (.int p1), some (.int p2), some (.int (10 * (((p2 + 1) * (Z.1 229 1)) - (Z.1 229 2)))), none, none, none]) (st1 := [.int 3, .ref 229, .int ((p2 + 1) * (Z.1 229 1)), .int 10]) (M1 := mjTo Z) rfl ?_
  refine pG_ial rfl (by rfl) (by decide) ?_
  refine pG_many 8 (pc1 := 49) (L1 := [some (.ref 211), some (.int p0), some (.int p1), some (.int p2), some (.int (10 * (((p2 + 1) * (Z.1 229 1)) - (Z.1 229 2)))), some (.int (10 * (((p2 + 1) * (Z.1 229 1)) + (Z.1 229 3)))), none, none]) (st1 := [.int (p1 - 1), .int p0, .ref 211]) (M1 := mjTo Z) rfl ?_
  cases hq101 : f244_endPlace p0 (p1 - 1) Z with
  | none => rw [hq101] at h; cases h
  | some v102 =>
    rw [hq101, mjBp_some] at h
    refine pG_callV (k2 := 244) (As := [.ref 211, .int p0, .int (p1 - 1)]) (rest := []) rfl rfl rfl rfl rfl (by rfl) (by decide) (f244_endPlace_ok hq101) ?_
    rintro r9 M9 ⟨rfl, rfl⟩
    show pG 267 52 [some (.ref 211), some (.int p0), some (.int p1), some (.int p2), some (.int (10 * (((p2 + 1) * (Z.1 229 1)) - (Z.1 229 2)))), some (.int (10 * (((p2 + 1) * (Z.1 229 1)) + (Z.1 229 3)))), none, none] [.int v102] (mjTo Z) _
    refine pG_many 4 (pc1 := 57) (L1 := [some (.ref 211), some (.int p0), some (.int p1), some (.int p2), some (.int (10 * (((p2 + 1) * (Z.1 229 1)) - (Z.1 229 2)))), some (.int (10 * (((p2 + 1) * (Z.1 229 1)) + (Z.1 229 3)))), some (.int v102), none]) (st1 := [.int p1, .int p0, .ref 211]) (M1 := mjTo Z) rfl ?_
    cases hq104 : f244_endPlace p0 p1 Z with
    | none => rw [hq104] at h; cases h
    | some v105 =>
      rw [hq104, mjBp_some] at h
      refine pG_callV (k2 := 244) (As := [.ref 211, .int p0, .int p1]) (rest := []) rfl rfl rfl rfl rfl (by rfl) (by decide) (f244_endPlace_ok hq104) ?_
      rintro r9 M9 ⟨rfl, rfl⟩
      show pG 267 60 [some (.ref 211), some (.int p0), some (.int p1), some (.int p2), some (.int (10 * (((p2 + 1) * (Z.1 229 1)) - (Z.1 229 2)))), some (.int (10 * (((p2 + 1) * (Z.1 229 1)) + (Z.1 229 3)))), some (.int v102), none] [.int v105] (mjTo Z) _
      refine pG_many 3 (pc1 := 66) (L1 := [some (.ref 211), some (.int p0), some (.int p1), some (.int p2), some (.int (10 * (((p2 + 1) * (Z.1 229 1)) - (Z.1 229 2)))), some (.int (10 * (((p2 + 1) * (Z.1 229 1)) + (Z.1 229 3)))), some (.int v102), some (.int v105)]) (st1 := [.int (10 * (((p2 + 1) * (Z.1 229 1)) - (Z.1 229 2))), .int v102]) (M1 := mjTo Z) rfl ?_
      by_cases hc107 : mjCmp .le v102 (10 * (((p2 + 1) * (Z.1 229 1)) - (Z.1 229 2))) = true
      · rw [if_pos hc107] at h
        refine pG_cmt (t := 74) rfl rfl hc107 ?_
        refine pG_many 1 (pc1 := 76) (L1 := [some (.ref 211), some (.int p0), some (.int p1), some (.int p2), some (.int (10 * (((p2 + 1) * (Z.1 229 1)) - (Z.1 229 2)))), some (.int (10 * (((p2 + 1) * (Z.1 229 1)) + (Z.1 229 3)))), some (.int v102), some (.int v105)]) (st1 := [.int (10 * (((p2 + 1) * (Z.1 229 1)) - (Z.1 229 2)))]) (M1 := mjTo Z) rfl ?_
        exact f267_inBoxOf_j76_ok (10 * (((p2 + 1) * (Z.1 229 1)) + (Z.1 229 3))) v105 (10 * (((p2 + 1) * (Z.1 229 1)) - (Z.1 229 2))) (some (.ref 211)) (some (.int p0)) (some (.int p1)) (some (.int p2)) (some (.int (10 * (((p2 + 1) * (Z.1 229 1)) - (Z.1 229 2))))) (some (.int v102)) Z v9 h
      · rw [if_neg hc107] at h
        refine pG_cmf (t := 74) rfl rfl hc107 ?_
        refine pG_many 2 (pc1 := 76) (L1 := [some (.ref 211), some (.int p0), some (.int p1), some (.int p2), some (.int (10 * (((p2 + 1) * (Z.1 229 1)) - (Z.1 229 2)))), some (.int (10 * (((p2 + 1) * (Z.1 229 1)) + (Z.1 229 3)))), some (.int v102), some (.int v105)]) (st1 := [.int v102]) (M1 := mjTo Z) rfl ?_
        exact f267_inBoxOf_j76_ok (10 * (((p2 + 1) * (Z.1 229 1)) + (Z.1 229 3))) v105 v102 (some (.ref 211)) (some (.int p0)) (some (.int p1)) (some (.int p2)) (some (.int (10 * (((p2 + 1) * (Z.1 229 1)) - (Z.1 229 2))))) (some (.int v102)) Z v9 h
def f268_leg (p0 : Int32) (p1 : Int32) (p2 : Int32) (Z : mjZt) : Option Int32 :=
  mjBp (f240_isTeam p0 Z) fun v102 =>
  if mjCmp .eq v102 0 = true then
    some ((-1))
  else
    if mjIn p0 6 = true then
    mjBp (f195_isIn (Int32.toInt64 p1) 1 (Int32.toInt64 (Z.1 231 (mjIx p0))) Z) fun v107 =>
    if mjCmp .ne v107 0 = true then
      if (p2).toInt < 0 ∨ 4 < (p2).toInt then
        some ((-1))
      else if ((p2).toInt - 0).toNat = 0 then
        mjBp (f242_tenthsOf p0 (p1 - 1) Z) fun v113 =>
        some v113
      else if ((p2).toInt - 0).toNat = 1 then
        mjBp (f245_endTenth p0 (p1 - 1) Z) fun v117 =>
        some v117
      else if ((p2).toInt - 0).toNat = 2 then
        mjBp (f243_metresOf p0 (p1 - 1) Z) fun v121 =>
        some v121
      else if ((p2).toInt - 0).toNat = 3 then
        if mjCmp .ne (p1 - 1) 0 = true then
          mjBp (f267_inBoxOf p0 (p1 - 1) ((p1 - 1) - 1) Z) fun v126 =>
          some v126
        else
          some 0
      else if ((p2).toInt - 0).toNat = 4 then
        if mjCmp .ne p1 (Z.1 229 0) = true then
          mjBp (f267_inBoxOf p0 (p1 - 1) (p1 - 1) Z) fun v131 =>
          some v131
        else
          some 0
      else none
    else
      some ((-1))
    else none
set_option maxRecDepth 4000 in
theorem f268_leg_ok {p0 : Int32} {p1 : Int32} {p2 : Int32} {Z : mjZt} {v9 : Int32} (h : f268_leg p0 p1 p2 Z = some v9) : pG 268 0 (mjEnt [.ref 211, .int p0, .int p1, .int p2] (mjML 268)) [] (mjTo Z) (fun r M1 => r = some (.int v9) ∧ M1 = mjTo Z) := by
  unfold f268_leg at h
  show pG 268 0 [some (.ref 211), some (.int p0), some (.int p1), some (.int p2), none] [] (mjTo Z) _
  refine pG_many 2 (pc1 := 2) (L1 := [some (.ref 211), some (.int p0), some (.int p1), some (.int p2), none]) (st1 := [.int p0, .ref 211]) (M1 := mjTo Z) rfl ?_
  cases hq101 : f240_isTeam p0 Z with
  | none => rw [hq101] at h; cases h
  | some v102 =>
    rw [hq101, mjBp_some] at h
    refine pG_callV (k2 := 240) (As := [.ref 211, .int p0]) (rest := []) rfl rfl rfl rfl rfl (by rfl) (by decide) (f240_isTeam_ok hq101) ?_
    rintro r9 M9 ⟨rfl, rfl⟩
    show pG 268 5 [some (.ref 211), some (.int p0), some (.int p1), some (.int p2), none] [.int v102] (mjTo Z) _
    by_cases hc104 : mjCmp .eq v102 0 = true
    · rw [if_pos hc104] at h
      refine pG_ift (t := 24) rfl rfl hc104 ?_
      refine pG_many 1 (pc1 := 25) (L1 := [some (.ref 211), some (.int p0), some (.int p1), some (.int p2), none]) (st1 := [.int ((-1))]) (M1 := mjTo Z) rfl ?_
      simp only [Option.some.injEq] at h
      subst h
      exact pG_ret (r := some (.int ((-1)))) rfl ⟨rfl, rfl⟩
    · rw [if_neg hc104] at h
      refine pG_iff (t := 24) rfl rfl hc104 ?_
      refine pG_many 4 (pc1 := 12) (L1 := [some (.ref 211), some (.int p0), some (.int p1), some (.int p2), none]) (st1 := [.ref 211, .long 1, .long (Int32.toInt64 p1)]) (M1 := mjTo Z) rfl ?_
      refine pG_getR (ci := 12) (f := 46) (b := 231) rfl rfl rfl (by rfl) rfl ?_
      refine pG_many 1 (pc1 := 16) (L1 := [some (.ref 211), some (.int p0), some (.int p1), some (.int p2), none]) (st1 := [.int p0, .ref 231, .long 1, .long (Int32.toInt64 p1)]) (M1 := mjTo Z) rfl ?_
      have hk105 : mjIn p0 6 = true := by
        by_cases q9 : mjIn p0 6 = true
        · exact q9
        · rw [if_neg q9] at h; cases h
      rw [if_pos hk105] at h
      refine pG_ial rfl (by rfl) hk105 ?_
      refine pG_many 1 (pc1 := 18) (L1 := [some (.ref 211), some (.int p0), some (.int p1), some (.int p2), none]) (st1 := [.long (Int32.toInt64 (Z.1 231 (mjIx p0))), .long 1, .long (Int32.toInt64 p1)]) (M1 := mjTo Z) rfl ?_
      cases hq106 : f195_isIn (Int32.toInt64 p1) 1 (Int32.toInt64 (Z.1 231 (mjIx p0))) Z with
      | none => rw [hq106] at h; cases h
      | some v107 =>
        rw [hq106, mjBp_some] at h
        refine pG_call (k2 := 195) (As := [.long (Int32.toInt64 p1), .long 1, .long (Int32.toInt64 (Z.1 231 (mjIx p0)))]) (rest := []) rfl (by decide) (f195_isIn_ok hq106) ?_
        rintro r9 M9 ⟨rfl, rfl⟩
        show pG 268 21 [some (.ref 211), some (.int p0), some (.int p1), some (.int p2), none] [.int v107] (mjTo Z) _
        by_cases hc109 : mjCmp .ne v107 0 = true
        · rw [if_pos hc109] at h
          refine pG_ift (t := 26) rfl rfl hc109 ?_
          refine pG_many 5 (pc1 := 32) (L1 := [some (.ref 211), some (.int p0), some (.int p1), some (.int p2), some (.int (p1 - 1))]) (st1 := [.int p2]) (M1 := mjTo Z) rfl ?_
          by_cases hs110 : (p2).toInt < 0 ∨ 4 < (p2).toInt
          · rw [if_pos hs110] at h
            refine pG_tso (t := 137) rfl hs110 rfl ?_
            refine pG_many 1 (pc1 := 138) (L1 := [some (.ref 211), some (.int p0), some (.int p1), some (.int p2), some (.int (p1 - 1))]) (st1 := [.int ((-1))]) (M1 := mjTo Z) rfl ?_
            simp only [Option.some.injEq] at h
            subst h
            exact pG_ret (r := some (.int ((-1)))) rfl ⟨rfl, rfl⟩
          rw [if_neg hs110] at h
          by_cases hs111 : ((p2).toInt - 0).toNat = 0
          · rw [if_pos hs111] at h
            refine pG_tsi (t := 68) (j := 0) (o := 36) rfl hs110 hs111 rfl rfl ?_
            refine pG_many 3 (pc1 := 72) (L1 := [some (.ref 211), some (.int p0), some (.int p1), some (.int p2), some (.int (p1 - 1))]) (st1 := [.int (p1 - 1), .int p0, .ref 211]) (M1 := mjTo Z) rfl ?_
            cases hq112 : f242_tenthsOf p0 (p1 - 1) Z with
            | none => rw [hq112] at h; cases h
            | some v113 =>
              rw [hq112, mjBp_some] at h
              refine pG_callV (k2 := 242) (As := [.ref 211, .int p0, .int (p1 - 1)]) (rest := []) rfl rfl rfl rfl rfl (by rfl) (by decide) (f242_tenthsOf_ok hq112) ?_
              rintro r9 M9 ⟨rfl, rfl⟩
              show pG 268 75 [some (.ref 211), some (.int p0), some (.int p1), some (.int p2), some (.int (p1 - 1))] [.int v113] (mjTo Z) _
              simp only [Option.some.injEq] at h
              subst h
              exact pG_ret (r := some (.int v113)) rfl ⟨rfl, rfl⟩
          rw [if_neg hs111] at h
          by_cases hs115 : ((p2).toInt - 0).toNat = 1
          · rw [if_pos hs115] at h
            refine pG_tsi (t := 76) (j := 1) (o := 44) rfl hs110 hs115 rfl rfl ?_
            refine pG_many 3 (pc1 := 80) (L1 := [some (.ref 211), some (.int p0), some (.int p1), some (.int p2), some (.int (p1 - 1))]) (st1 := [.int (p1 - 1), .int p0, .ref 211]) (M1 := mjTo Z) rfl ?_
            cases hq116 : f245_endTenth p0 (p1 - 1) Z with
            | none => rw [hq116] at h; cases h
            | some v117 =>
              rw [hq116, mjBp_some] at h
              refine pG_callV (k2 := 245) (As := [.ref 211, .int p0, .int (p1 - 1)]) (rest := []) rfl rfl rfl rfl rfl (by rfl) (by decide) (f245_endTenth_ok hq116) ?_
              rintro r9 M9 ⟨rfl, rfl⟩
              show pG 268 83 [some (.ref 211), some (.int p0), some (.int p1), some (.int p2), some (.int (p1 - 1))] [.int v117] (mjTo Z) _
              simp only [Option.some.injEq] at h
              subst h
              exact pG_ret (r := some (.int v117)) rfl ⟨rfl, rfl⟩
          rw [if_neg hs115] at h
          by_cases hs119 : ((p2).toInt - 0).toNat = 2
          · rw [if_pos hs119] at h
            refine pG_tsi (t := 84) (j := 2) (o := 52) rfl hs110 hs119 rfl rfl ?_
            refine pG_many 3 (pc1 := 88) (L1 := [some (.ref 211), some (.int p0), some (.int p1), some (.int p2), some (.int (p1 - 1))]) (st1 := [.int (p1 - 1), .int p0, .ref 211]) (M1 := mjTo Z) rfl ?_
            cases hq120 : f243_metresOf p0 (p1 - 1) Z with
            | none => rw [hq120] at h; cases h
            | some v121 =>
              rw [hq120, mjBp_some] at h
              refine pG_callV (k2 := 243) (As := [.ref 211, .int p0, .int (p1 - 1)]) (rest := []) rfl rfl rfl rfl rfl (by rfl) (by decide) (f243_metresOf_ok hq120) ?_
              rintro r9 M9 ⟨rfl, rfl⟩
              show pG 268 91 [some (.ref 211), some (.int p0), some (.int p1), some (.int p2), some (.int (p1 - 1))] [.int v121] (mjTo Z) _
              simp only [Option.some.injEq] at h
              subst h
              exact pG_ret (r := some (.int v121)) rfl ⟨rfl, rfl⟩
          rw [if_neg hs119] at h
          by_cases hs123 : ((p2).toInt - 0).toNat = 3
          · rw [if_pos hs123] at h
            refine pG_tsi (t := 92) (j := 3) (o := 60) rfl hs110 hs123 rfl rfl ?_
            refine pG_many 1 (pc1 := 94) (L1 := [some (.ref 211), some (.int p0), some (.int p1), some (.int p2), some (.int (p1 - 1))]) (st1 := [.int (p1 - 1)]) (M1 := mjTo Z) rfl ?_
            by_cases hc124 : mjCmp .ne (p1 - 1) 0 = true
            · rw [if_pos hc124] at h
              refine pG_ift (t := 101) rfl rfl hc124 ?_
              refine pG_many 6 (pc1 := 109) (L1 := [some (.ref 211), some (.int p0), some (.int p1), some (.int p2), some (.int (p1 - 1))]) (st1 := [.int ((p1 - 1) - 1), .int (p1 - 1), .int p0, .ref 211]) (M1 := mjTo Z) rfl ?_
              cases hq125 : f267_inBoxOf p0 (p1 - 1) ((p1 - 1) - 1) Z with
              | none => rw [hq125] at h; cases h
              | some v126 =>
                rw [hq125, mjBp_some] at h
                refine pG_callV (k2 := 267) (As := [.ref 211, .int p0, .int (p1 - 1), .int ((p1 - 1) - 1)]) (rest := []) rfl rfl rfl rfl rfl (by rfl) (by decide) (f267_inBoxOf_ok hq125) ?_
                rintro r9 M9 ⟨rfl, rfl⟩
                show pG 268 112 [some (.ref 211), some (.int p0), some (.int p1), some (.int p2), some (.int (p1 - 1))] [.int v126] (mjTo Z) _
                simp only [Option.some.injEq] at h
                subst h
                exact pG_ret (r := some (.int v126)) rfl ⟨rfl, rfl⟩
            · rw [if_neg hc124] at h
              refine pG_iff (t := 101) rfl rfl hc124 ?_
              refine pG_many 2 (pc1 := 112) (L1 := [some (.ref 211), some (.int p0), some (.int p1), some (.int p2), some (.int (p1 - 1))]) (st1 := [.int 0]) (M1 := mjTo Z) rfl ?_
              simp only [Option.some.injEq] at h
              subst h
              exact pG_ret (r := some (.int 0)) rfl ⟨rfl, rfl⟩
          rw [if_neg hs123] at h
          by_cases hs128 : ((p2).toInt - 0).toNat = 4
          · rw [if_pos hs128] at h
            refine pG_tsi (t := 113) (j := 4) (o := 81) rfl hs110 hs128 rfl rfl ?_
            refine pG_many 2 (pc1 := 115) (L1 := [some (.ref 211), some (.int p0), some (.int p1), some (.int p2), some (.int (p1 - 1))]) (st1 := [.ref 211, .int p1]) (M1 := mjTo Z) rfl ?_
            refine pG_getR (ci := 12) (f := 44) (b := 229) rfl rfl rfl (by rfl) rfl ?_
            refine pG_many 1 (pc1 := 119) (L1 := [some (.ref 211), some (.int p0), some (.int p1), some (.int p2), some (.int (p1 - 1))]) (st1 := [.int 0, .ref 229, .int p1]) (M1 := mjTo Z) rfl ?_
            refine pG_ial rfl (by rfl) (by decide) ?_
            by_cases hc129 : mjCmp .ne p1 (Z.1 229 0) = true
            · rw [if_pos hc129] at h
              refine pG_cmt (t := 127) rfl rfl hc129 ?_
              refine pG_many 4 (pc1 := 133) (L1 := [some (.ref 211), some (.int p0), some (.int p1), some (.int p2), some (.int (p1 - 1))]) (st1 := [.int (p1 - 1), .int (p1 - 1), .int p0, .ref 211]) (M1 := mjTo Z) rfl ?_
              cases hq130 : f267_inBoxOf p0 (p1 - 1) (p1 - 1) Z with
              | none => rw [hq130] at h; cases h
              | some v131 =>
                rw [hq130, mjBp_some] at h
                refine pG_callV (k2 := 267) (As := [.ref 211, .int p0, .int (p1 - 1), .int (p1 - 1)]) (rest := []) rfl rfl rfl rfl rfl (by rfl) (by decide) (f267_inBoxOf_ok hq130) ?_
                rintro r9 M9 ⟨rfl, rfl⟩
                show pG 268 136 [some (.ref 211), some (.int p0), some (.int p1), some (.int p2), some (.int (p1 - 1))] [.int v131] (mjTo Z) _
                simp only [Option.some.injEq] at h
                subst h
                exact pG_ret (r := some (.int v131)) rfl ⟨rfl, rfl⟩
            · rw [if_neg hc129] at h
              refine pG_cmf (t := 127) rfl rfl hc129 ?_
              refine pG_many 2 (pc1 := 136) (L1 := [some (.ref 211), some (.int p0), some (.int p1), some (.int p2), some (.int (p1 - 1))]) (st1 := [.int 0]) (M1 := mjTo Z) rfl ?_
              simp only [Option.some.injEq] at h
              subst h
              exact pG_ret (r := some (.int 0)) rfl ⟨rfl, rfl⟩
          rw [if_neg hs128] at h
          cases h
        · rw [if_neg hc109] at h
          refine pG_iff (t := 26) rfl rfl hc109 ?_
          refine pG_many 1 (pc1 := 25) (L1 := [some (.ref 211), some (.int p0), some (.int p1), some (.int p2), none]) (st1 := [.int ((-1))]) (M1 := mjTo Z) rfl ?_
          simp only [Option.some.injEq] at h
          subst h
          exact pG_ret (r := some (.int ((-1)))) rfl ⟨rfl, rfl⟩
def f269_inBox_h31 : Nat → Int32 → Int32 → Int32 → mjZt → Option Int32
  | 0, _, _, _, _ => none
  | n + 1, x3, x4, x5, Z =>
    if mjCmp .ge x5 (Z.1 229 0) = true then
      mjBp (f196_truth x4 Z) fun v114 =>
      some v114
    else
      if mjCmp .ne x4 0 = true then
        f269_inBox_h31 n x3 1 (x5 + 1) Z
      else
        mjBp (f195_isIn (Int32.toInt64 x3) (10 * (Int32.toInt64 ((x5 * (Z.1 229 1)) - (Z.1 229 2)))) (10 * (Int32.toInt64 ((x5 * (Z.1 229 1)) + (Z.1 229 3)))) Z) fun v118 =>
        if mjCmp .eq v118 0 = true then
          f269_inBox_h31 n x3 0 (x5 + 1) Z
        else
          f269_inBox_h31 n x3 1 (x5 + 1) Z
set_option maxRecDepth 4000 in
theorem f269_inBox_h31_ok : ∀ (n : Nat) (x3 : Int32) (x4 : Int32) (x5 : Int32) (d1 d2 : Option Value) (Z : mjZt) (v9 : Int32), f269_inBox_h31 n x3 x4 x5 Z = some v9 → pG 269 31 [some (.ref 211), d1, d2, some (.int x3), some (.int x4), some (.int x5)] [] (mjTo Z) (fun r M1 => r = some (.int v9) ∧ M1 = mjTo Z)
  | 0, x3, x4, x5, d1, d2, Z, v9, h => by rw [f269_inBox_h31] at h; cases h
  | n + 1, x3, x4, x5, d1, d2, Z, v9, h => by
      rw [f269_inBox_h31] at h
      refine pG_many 2 (pc1 := 34) (L1 := [some (.ref 211), d1, d2, some (.int x3), some (.int x4), some (.int x5)]) (st1 := [.ref 211, .int x5]) (M1 := mjTo Z) rfl ?_
      refine pG_getR (ci := 12) (f := 44) (b := 229) rfl rfl rfl (by rfl) rfl ?_
      refine pG_many 1 (pc1 := 38) (L1 := [some (.ref 211), d1, d2, some (.int x3), some (.int x4), some (.int x5)]) (st1 := [.int 0, .ref 229, .int x5]) (M1 := mjTo Z) rfl ?_
      refine pG_ial rfl (by rfl) (by decide) ?_
      by_cases hc112 : mjCmp .ge x5 (Z.1 229 0) = true
      · rw [if_pos hc112] at h
        refine pG_cmt (t := 110) rfl rfl hc112 ?_
        refine pG_many 1 (pc1 := 112) (L1 := [some (.ref 211), d1, d2, some (.int x3), some (.int x4), some (.int x5)]) (st1 := [.int x4]) (M1 := mjTo Z) rfl ?_
        cases hq113 : f196_truth x4 Z with
        | none => rw [hq113] at h; cases h
        | some v114 =>
          rw [hq113, mjBp_some] at h
          refine pG_call (k2 := 196) (As := [.int x4]) (rest := []) rfl (by decide) (f196_truth_ok hq113) ?_
          rintro r9 M9 ⟨rfl, rfl⟩
          show pG 269 115 [some (.ref 211), d1, d2, some (.int x3), some (.int x4), some (.int x5)] [.int v114] (mjTo Z) _
          simp only [Option.some.injEq] at h
          subst h
          exact pG_ret (r := some (.int v114)) rfl ⟨rfl, rfl⟩
      · rw [if_neg hc112] at h
        refine pG_cmf (t := 110) rfl rfl hc112 ?_
        refine pG_many 1 (pc1 := 44) (L1 := [some (.ref 211), d1, d2, some (.int x3), some (.int x4), some (.int x5)]) (st1 := [.int x4]) (M1 := mjTo Z) rfl ?_
        by_cases hc116 : mjCmp .ne x4 0 = true
        · rw [if_pos hc116] at h
          refine pG_ift (t := 97) rfl rfl hc116 ?_
          refine pG_many 5 (pc1 := 31) (L1 := [some (.ref 211), d1, d2, some (.int x3), some (.int 1), some (.int (x5 + 1))]) (st1 := []) (M1 := mjTo Z) rfl ?_
          exact f269_inBox_h31_ok n x3 1 (x5 + 1) d1 d2 Z v9 h
        · rw [if_neg hc116] at h
          refine pG_iff (t := 97) rfl rfl hc116 ?_
          refine pG_many 5 (pc1 := 55) (L1 := [some (.ref 211), d1, d2, some (.int x3), some (.int x4), some (.int x5)]) (st1 := [.ref 211, .int x5, .long 10, .long (Int32.toInt64 x3)]) (M1 := mjTo Z) rfl ?_
          refine pG_getR (ci := 12) (f := 44) (b := 229) rfl rfl rfl (by rfl) rfl ?_
          refine pG_many 1 (pc1 := 59) (L1 := [some (.ref 211), d1, d2, some (.int x3), some (.int x4), some (.int x5)]) (st1 := [.int 1, .ref 229, .int x5, .long 10, .long (Int32.toInt64 x3)]) (M1 := mjTo Z) rfl ?_
          refine pG_ial rfl (by rfl) (by decide) ?_
          refine pG_many 2 (pc1 := 62) (L1 := [some (.ref 211), d1, d2, some (.int x3), some (.int x4), some (.int x5)]) (st1 := [.ref 211, .int (x5 * (Z.1 229 1)), .long 10, .long (Int32.toInt64 x3)]) (M1 := mjTo Z) rfl ?_
          refine pG_getR (ci := 12) (f := 44) (b := 229) rfl rfl rfl (by rfl) rfl ?_
          refine pG_many 1 (pc1 := 66) (L1 := [some (.ref 211), d1, d2, some (.int x3), some (.int x4), some (.int x5)]) (st1 := [.int 2, .ref 229, .int (x5 * (Z.1 229 1)), .long 10, .long (Int32.toInt64 x3)]) (M1 := mjTo Z) rfl ?_
          refine pG_ial rfl (by rfl) (by decide) ?_
          refine pG_many 6 (pc1 := 76) (L1 := [some (.ref 211), d1, d2, some (.int x3), some (.int x4), some (.int x5)]) (st1 := [.ref 211, .int x5, .long 10, .long (10 * (Int32.toInt64 ((x5 * (Z.1 229 1)) - (Z.1 229 2)))), .long (Int32.toInt64 x3)]) (M1 := mjTo Z) rfl ?_
          refine pG_getR (ci := 12) (f := 44) (b := 229) rfl rfl rfl (by rfl) rfl ?_
          refine pG_many 1 (pc1 := 80) (L1 := [some (.ref 211), d1, d2, some (.int x3), some (.int x4), some (.int x5)]) (st1 := [.int 1, .ref 229, .int x5, .long 10, .long (10 * (Int32.toInt64 ((x5 * (Z.1 229 1)) - (Z.1 229 2)))), .long (Int32.toInt64 x3)]) (M1 := mjTo Z) rfl ?_
          refine pG_ial rfl (by rfl) (by decide) ?_
          refine pG_many 2 (pc1 := 83) (L1 := [some (.ref 211), d1, d2, some (.int x3), some (.int x4), some (.int x5)]) (st1 := [.ref 211, .int (x5 * (Z.1 229 1)), .long 10, .long (10 * (Int32.toInt64 ((x5 * (Z.1 229 1)) - (Z.1 229 2)))), .long (Int32.toInt64 x3)]) (M1 := mjTo Z) rfl ?_
          refine pG_getR (ci := 12) (f := 44) (b := 229) rfl rfl rfl (by rfl) rfl ?_
          refine pG_many 1 (pc1 := 87) (L1 := [some (.ref 211), d1, d2, some (.int x3), some (.int x4), some (.int x5)]) (st1 := [.int 3, .ref 229, .int (x5 * (Z.1 229 1)), .long 10, .long (10 * (Int32.toInt64 ((x5 * (Z.1 229 1)) - (Z.1 229 2)))), .long (Int32.toInt64 x3)]) (M1 := mjTo Z) rfl ?_
          refine pG_ial rfl (by rfl) (by decide) ?_
          refine pG_many 3 (pc1 := 91) (L1 := [some (.ref 211), d1, d2, some (.int x3), some (.int x4), some (.int x5)]) (st1 := [.long (10 * (Int32.toInt64 ((x5 * (Z.1 229 1)) + (Z.1 229 3)))), .long (10 * (Int32.toInt64 ((x5 * (Z.1 229 1)) - (Z.1 229 2)))), .long (Int32.toInt64 x3)]) (M1 := mjTo Z) rfl ?_
          cases hq117 : f195_isIn (Int32.toInt64 x3) (10 * (Int32.toInt64 ((x5 * (Z.1 229 1)) - (Z.1 229 2)))) (10 * (Int32.toInt64 ((x5 * (Z.1 229 1)) + (Z.1 229 3)))) Z with
          | none => rw [hq117] at h; cases h
          | some v118 =>
            rw [hq117, mjBp_some] at h
            refine pG_call (k2 := 195) (As := [.long (Int32.toInt64 x3), .long (10 * (Int32.toInt64 ((x5 * (Z.1 229 1)) - (Z.1 229 2)))), .long (10 * (Int32.toInt64 ((x5 * (Z.1 229 1)) + (Z.1 229 3))))]) (rest := []) rfl (by decide) (f195_isIn_ok hq117) ?_
            rintro r9 M9 ⟨rfl, rfl⟩
            show pG 269 94 [some (.ref 211), d1, d2, some (.int x3), some (.int x4), some (.int x5)] [.int v118] (mjTo Z) _
            by_cases hc120 : mjCmp .eq v118 0 = true
            · rw [if_pos hc120] at h
              refine pG_ift (t := 101) rfl rfl hc120 ?_
              refine pG_many 4 (pc1 := 31) (L1 := [some (.ref 211), d1, d2, some (.int x3), some (.int 0), some (.int (x5 + 1))]) (st1 := []) (M1 := mjTo Z) rfl ?_
              exact f269_inBox_h31_ok n x3 0 (x5 + 1) d1 d2 Z v9 h
            · rw [if_neg hc120] at h
              refine pG_iff (t := 101) rfl rfl hc120 ?_
              refine pG_many 5 (pc1 := 31) (L1 := [some (.ref 211), d1, d2, some (.int x3), some (.int 1), some (.int (x5 + 1))]) (st1 := []) (M1 := mjTo Z) rfl ?_
              exact f269_inBox_h31_ok n x3 1 (x5 + 1) d1 d2 Z v9 h
def f269_inBox (p0 : Int32) (p1 : Int32) (Z : mjZt) : Option Int32 :=
  mjBp (f240_isTeam p0 Z) fun v102 =>
  if mjCmp .eq v102 0 = true then
    some ((-1))
  else
    mjBp (f241_isTenth p1 Z) fun v106 =>
    if mjCmp .ne v106 0 = true then
      mjBp (f249_placeOf p0 p1 Z) fun v110 =>
      f269_inBox_h31 mjF v110 0 1 Z
    else
      some ((-1))
set_option maxRecDepth 4000 in
theorem f269_inBox_ok {p0 : Int32} {p1 : Int32} {Z : mjZt} {v9 : Int32} (h : f269_inBox p0 p1 Z = some v9) : pG 269 0 (mjEnt [.ref 211, .int p0, .int p1] (mjML 269)) [] (mjTo Z) (fun r M1 => r = some (.int v9) ∧ M1 = mjTo Z) := by
  unfold f269_inBox at h
  show pG 269 0 [some (.ref 211), some (.int p0), some (.int p1), none, none, none] [] (mjTo Z) _
  refine pG_many 2 (pc1 := 2) (L1 := [some (.ref 211), some (.int p0), some (.int p1), none, none, none]) (st1 := [.int p0, .ref 211]) (M1 := mjTo Z) rfl ?_
  cases hq101 : f240_isTeam p0 Z with
  | none => rw [hq101] at h; cases h
  | some v102 =>
    rw [hq101, mjBp_some] at h
    refine pG_callV (k2 := 240) (As := [.ref 211, .int p0]) (rest := []) rfl rfl rfl rfl rfl (by rfl) (by decide) (f240_isTeam_ok hq101) ?_
    rintro r9 M9 ⟨rfl, rfl⟩
    show pG 269 5 [some (.ref 211), some (.int p0), some (.int p1), none, none, none] [.int v102] (mjTo Z) _
    by_cases hc104 : mjCmp .eq v102 0 = true
    · rw [if_pos hc104] at h
      refine pG_ift (t := 16) rfl rfl hc104 ?_
      refine pG_many 1 (pc1 := 17) (L1 := [some (.ref 211), some (.int p0), some (.int p1), none, none, none]) (st1 := [.int ((-1))]) (M1 := mjTo Z) rfl ?_
      simp only [Option.some.injEq] at h
      subst h
      exact pG_ret (r := some (.int ((-1)))) rfl ⟨rfl, rfl⟩
    · rw [if_neg hc104] at h
      refine pG_iff (t := 16) rfl rfl hc104 ?_
      refine pG_many 2 (pc1 := 10) (L1 := [some (.ref 211), some (.int p0), some (.int p1), none, none, none]) (st1 := [.int p1, .ref 211]) (M1 := mjTo Z) rfl ?_
      cases hq105 : f241_isTenth p1 Z with
      | none => rw [hq105] at h; cases h
      | some v106 =>
        rw [hq105, mjBp_some] at h
        refine pG_callV (k2 := 241) (As := [.ref 211, .int p1]) (rest := []) rfl rfl rfl rfl rfl (by rfl) (by decide) (f241_isTenth_ok hq105) ?_
        rintro r9 M9 ⟨rfl, rfl⟩
        show pG 269 13 [some (.ref 211), some (.int p0), some (.int p1), none, none, none] [.int v106] (mjTo Z) _
        by_cases hc108 : mjCmp .ne v106 0 = true
        · rw [if_pos hc108] at h
          refine pG_ift (t := 18) rfl rfl hc108 ?_
          refine pG_many 3 (pc1 := 21) (L1 := [some (.ref 211), some (.int p0), some (.int p1), none, none, none]) (st1 := [.int p1, .int p0, .ref 211]) (M1 := mjTo Z) rfl ?_
          cases hq109 : f249_placeOf p0 p1 Z with
          | none => rw [hq109] at h; cases h
          | some v110 =>
            rw [hq109, mjBp_some] at h
            refine pG_callV (k2 := 249) (As := [.ref 211, .int p0, .int p1]) (rest := []) rfl rfl rfl rfl rfl (by rfl) (by decide) (f249_placeOf_ok hq109) ?_
            rintro r9 M9 ⟨rfl, rfl⟩
            show pG 269 24 [some (.ref 211), some (.int p0), some (.int p1), none, none, none] [.int v110] (mjTo Z) _
            refine pG_many 5 (pc1 := 31) (L1 := [some (.ref 211), some (.int p0), some (.int p1), some (.int v110), some (.int 0), some (.int 1)]) (st1 := []) (M1 := mjTo Z) rfl ?_
            exact f269_inBox_h31_ok mjF v110 0 1 (some (.int p0)) (some (.int p1)) Z v9 h
        · rw [if_neg hc108] at h
          refine pG_iff (t := 18) rfl rfl hc108 ?_
          refine pG_many 1 (pc1 := 17) (L1 := [some (.ref 211), some (.int p0), some (.int p1), none, none, none]) (st1 := [.int ((-1))]) (M1 := mjTo Z) rfl ?_
          simp only [Option.some.injEq] at h
          subst h
          exact pG_ret (r := some (.int ((-1)))) rfl ⟨rfl, rfl⟩
def f270_isAct (p0 : Int32) (Z : mjZt) : Option Int32 :=
  mjBp (f251_allActs  Z) fun v102 =>
  mjBp (f195_isIn (Int32.toInt64 p0) 0 (Int32.toInt64 (v102 - 1)) Z) fun v105 =>
  if v105 = 0 ∨ v105 = 1 then
  some v105
  else none
set_option maxRecDepth 4000 in
theorem f270_isAct_ok {p0 : Int32} {Z : mjZt} {v9 : Int32} (h : f270_isAct p0 Z = some v9) : pG 270 0 (mjEnt [.ref 211, .int p0] (mjML 270)) [] (mjTo Z) (fun r M1 => r = some (.int v9) ∧ M1 = mjTo Z) := by
  unfold f270_isAct at h
  show pG 270 0 [some (.ref 211), some (.int p0)] [] (mjTo Z) _
  refine pG_many 4 (pc1 := 4) (L1 := [some (.ref 211), some (.int p0)]) (st1 := [.ref 211, .long 0, .long (Int32.toInt64 p0)]) (M1 := mjTo Z) rfl ?_
  cases hq101 : f251_allActs  Z with
  | none => rw [hq101] at h; cases h
  | some v102 =>
    rw [hq101, mjBp_some] at h
    refine pG_callV (k2 := 251) (As := [.ref 211]) (rest := [.long 0, .long (Int32.toInt64 p0)]) rfl rfl rfl rfl rfl (by rfl) (by decide) (f251_allActs_ok hq101) ?_
    rintro r9 M9 ⟨rfl, rfl⟩
    show pG 270 7 [some (.ref 211), some (.int p0)] [.int v102, .long 0, .long (Int32.toInt64 p0)] (mjTo Z) _
    refine pG_many 3 (pc1 := 10) (L1 := [some (.ref 211), some (.int p0)]) (st1 := [.long (Int32.toInt64 (v102 - 1)), .long 0, .long (Int32.toInt64 p0)]) (M1 := mjTo Z) rfl ?_
    cases hq104 : f195_isIn (Int32.toInt64 p0) 0 (Int32.toInt64 (v102 - 1)) Z with
    | none => rw [hq104] at h; cases h
    | some v105 =>
      rw [hq104, mjBp_some] at h
      refine pG_call (k2 := 195) (As := [.long (Int32.toInt64 p0), .long 0, .long (Int32.toInt64 (v102 - 1))]) (rest := []) rfl (by decide) (f195_isIn_ok hq104) ?_
      rintro r9 M9 ⟨rfl, rfl⟩
      show pG 270 13 [some (.ref 211), some (.int p0)] [.int v105] (mjTo Z) _
      have hk107 : v105 = 0 ∨ v105 = 1 := by
        by_cases q9 : v105 = 0 ∨ v105 = 1
        · exact q9
        · rw [if_neg q9] at h; cases h
      rw [if_pos hk107] at h
      simp only [Option.some.injEq] at h
      subst h
      exact pG_ret (r := some (.int v105)) (mjRt1_z rfl rfl hk107) ⟨rfl, rfl⟩
def f271_boxTeam_h9 : Nat → Int32 → Int32 → mjZt → Option Int32
  | 0, _, _, _ => none
  | n + 1, x2, x3, Z =>
    mjBp (f250_boxesOf x3 Z) fun v102 =>
    if mjCmp .lt x2 v102 = true then
      some x3
    else
      f271_boxTeam_h9 n (x2 - v102) (x3 + 1) Z
set_option maxRecDepth 4000 in
theorem f271_boxTeam_h9_ok : ∀ (n : Nat) (x2 : Int32) (x3 : Int32) (d1 : Option Value) (Z : mjZt) (v9 : Int32), f271_boxTeam_h9 n x2 x3 Z = some v9 → pG 271 9 [some (.ref 211), d1, some (.int x2), some (.int x3)] [] (mjTo Z) (fun r M1 => r = some (.int v9) ∧ M1 = mjTo Z)
  | 0, x2, x3, d1, Z, v9, h => by rw [f271_boxTeam_h9] at h; cases h
  | n + 1, x2, x3, d1, Z, v9, h => by
      rw [f271_boxTeam_h9] at h
      refine pG_many 3 (pc1 := 12) (L1 := [some (.ref 211), d1, some (.int x2), some (.int x3)]) (st1 := [.int x3, .ref 211, .int x2]) (M1 := mjTo Z) rfl ?_
      cases hq101 : f250_boxesOf x3 Z with
      | none => rw [hq101] at h; cases h
      | some v102 =>
        rw [hq101, mjBp_some] at h
        refine pG_callV (k2 := 250) (As := [.ref 211, .int x3]) (rest := [.int x2]) rfl rfl rfl rfl rfl (by rfl) (by decide) (f250_boxesOf_ok hq101) ?_
        rintro r9 M9 ⟨rfl, rfl⟩
        show pG 271 15 [some (.ref 211), d1, some (.int x2), some (.int x3)] [.int v102, .int x2] (mjTo Z) _
        by_cases hc104 : mjCmp .lt x2 v102 = true
        · rw [if_pos hc104] at h
          refine pG_cmt (t := 32) rfl rfl hc104 ?_
          refine pG_many 1 (pc1 := 33) (L1 := [some (.ref 211), d1, some (.int x2), some (.int x3)]) (st1 := [.int x3]) (M1 := mjTo Z) rfl ?_
          simp only [Option.some.injEq] at h
          subst h
          exact pG_ret (r := some (.int x3)) rfl ⟨rfl, rfl⟩
        · rw [if_neg hc104] at h
          refine pG_cmf (t := 32) rfl rfl hc104 ?_
          refine pG_many 3 (pc1 := 21) (L1 := [some (.ref 211), d1, some (.int x2), some (.int x3)]) (st1 := [.int x3, .ref 211, .int x2]) (M1 := mjTo Z) rfl ?_
          refine pG_callV (k2 := 250) (As := [.ref 211, .int x3]) (rest := [.int x2]) rfl rfl rfl rfl rfl (by rfl) (by decide) (f250_boxesOf_ok hq101) ?_
          rintro r9 M9 ⟨rfl, rfl⟩
          show pG 271 24 [some (.ref 211), d1, some (.int x2), some (.int x3)] [.int v102, .int x2] (mjTo Z) _
          refine pG_many 4 (pc1 := 9) (L1 := [some (.ref 211), (mjK1 d1), some (.int (x2 - v102)), some (.int (x3 + 1))]) (st1 := []) (M1 := mjTo Z) rfl ?_
          exact f271_boxTeam_h9_ok n (x2 - v102) (x3 + 1) ((mjK1 d1)) Z v9 h
def f271_boxTeam (p0 : Int32) (Z : mjZt) : Option Int32 :=
  f271_boxTeam_h9 mjF (p0 - (Z.1 211 40)) 0 Z
set_option maxRecDepth 4000 in
theorem f271_boxTeam_ok {p0 : Int32} {Z : mjZt} {v9 : Int32} (h : f271_boxTeam p0 Z = some v9) : pG 271 0 (mjEnt [.ref 211, .int p0] (mjML 271)) [] (mjTo Z) (fun r M1 => r = some (.int v9) ∧ M1 = mjTo Z) := by
  unfold f271_boxTeam at h
  show pG 271 0 [some (.ref 211), some (.int p0), none, none] [] (mjTo Z) _
  refine pG_many 2 (pc1 := 2) (L1 := [some (.ref 211), some (.int p0), none, none]) (st1 := [.ref 211, .int p0]) (M1 := mjTo Z) rfl ?_
  refine pG_getI (ci := 12) (f := 40) rfl rfl (Or.inl rfl) (by rfl) ?_
  refine pG_many 4 (pc1 := 9) (L1 := [some (.ref 211), some (.int p0), some (.int (p0 - (Z.1 211 40))), some (.int 0)]) (st1 := []) (M1 := mjTo Z) rfl ?_
  exact f271_boxTeam_h9_ok mjF (p0 - (Z.1 211 40)) 0 (some (.int p0)) Z v9 h
def f272_boxLeg_h9 : Nat → Int32 → Int32 → Int32 → mjZt → Option Int32
  | 0, _, _, _, _ => none
  | n + 1, x1, x2, x3, Z =>
    mjBp (f271_boxTeam x1 Z) fun v102 =>
    if mjCmp .ge x3 v102 = true then
      some x2
    else
      mjBp (f250_boxesOf x3 Z) fun v106 =>
      f272_boxLeg_h9 n x1 (x2 - v106) (x3 + 1) Z
set_option maxRecDepth 4000 in
theorem f272_boxLeg_h9_ok : ∀ (n : Nat) (x1 : Int32) (x2 : Int32) (x3 : Int32) (Z : mjZt) (v9 : Int32), f272_boxLeg_h9 n x1 x2 x3 Z = some v9 → pG 272 9 [some (.ref 211), some (.int x1), some (.int x2), some (.int x3)] [] (mjTo Z) (fun r M1 => r = some (.int v9) ∧ M1 = mjTo Z)
  | 0, x1, x2, x3, Z, v9, h => by rw [f272_boxLeg_h9] at h; cases h
  | n + 1, x1, x2, x3, Z, v9, h => by
      rw [f272_boxLeg_h9] at h
      refine pG_many 3 (pc1 := 12) (L1 := [some (.ref 211), some (.int x1), some (.int x2), some (.int x3)]) (st1 := [.int x1, .ref 211, .int x3]) (M1 := mjTo Z) rfl ?_
      cases hq101 : f271_boxTeam x1 Z with
      | none => rw [hq101] at h; cases h
      | some v102 =>
        rw [hq101, mjBp_some] at h
        refine pG_callV (k2 := 271) (As := [.ref 211, .int x1]) (rest := [.int x3]) rfl rfl rfl rfl rfl (by rfl) (by decide) (f271_boxTeam_ok hq101) ?_
        rintro r9 M9 ⟨rfl, rfl⟩
        show pG 272 15 [some (.ref 211), some (.int x1), some (.int x2), some (.int x3)] [.int v102, .int x3] (mjTo Z) _
        by_cases hc104 : mjCmp .ge x3 v102 = true
        · rw [if_pos hc104] at h
          refine pG_cmt (t := 32) rfl rfl hc104 ?_
          refine pG_many 1 (pc1 := 33) (L1 := [some (.ref 211), some (.int x1), some (.int x2), some (.int x3)]) (st1 := [.int x2]) (M1 := mjTo Z) rfl ?_
          simp only [Option.some.injEq] at h
          subst h
          exact pG_ret (r := some (.int x2)) rfl ⟨rfl, rfl⟩
        · rw [if_neg hc104] at h
          refine pG_cmf (t := 32) rfl rfl hc104 ?_
          refine pG_many 3 (pc1 := 21) (L1 := [some (.ref 211), some (.int x1), some (.int x2), some (.int x3)]) (st1 := [.int x3, .ref 211, .int x2]) (M1 := mjTo Z) rfl ?_
          cases hq105 : f250_boxesOf x3 Z with
          | none => rw [hq105] at h; cases h
          | some v106 =>
            rw [hq105, mjBp_some] at h
            refine pG_callV (k2 := 250) (As := [.ref 211, .int x3]) (rest := [.int x2]) rfl rfl rfl rfl rfl (by rfl) (by decide) (f250_boxesOf_ok hq105) ?_
            rintro r9 M9 ⟨rfl, rfl⟩
            show pG 272 24 [some (.ref 211), some (.int x1), some (.int x2), some (.int x3)] [.int v106, .int x2] (mjTo Z) _
            refine pG_many 4 (pc1 := 9) (L1 := [some (.ref 211), some (.int x1), some (.int (x2 - v106)), some (.int (x3 + 1))]) (st1 := []) (M1 := mjTo Z) rfl ?_
            exact f272_boxLeg_h9_ok n x1 (x2 - v106) (x3 + 1) Z v9 h
def f272_boxLeg (p0 : Int32) (Z : mjZt) : Option Int32 :=
  f272_boxLeg_h9 mjF p0 (p0 - (Z.1 211 40)) 0 Z
set_option maxRecDepth 4000 in
theorem f272_boxLeg_ok {p0 : Int32} {Z : mjZt} {v9 : Int32} (h : f272_boxLeg p0 Z = some v9) : pG 272 0 (mjEnt [.ref 211, .int p0] (mjML 272)) [] (mjTo Z) (fun r M1 => r = some (.int v9) ∧ M1 = mjTo Z) := by
  unfold f272_boxLeg at h
  show pG 272 0 [some (.ref 211), some (.int p0), none, none] [] (mjTo Z) _
  refine pG_many 2 (pc1 := 2) (L1 := [some (.ref 211), some (.int p0), none, none]) (st1 := [.ref 211, .int p0]) (M1 := mjTo Z) rfl ?_
  refine pG_getI (ci := 12) (f := 40) rfl rfl (Or.inl rfl) (by rfl) ?_
  refine pG_many 4 (pc1 := 9) (L1 := [some (.ref 211), some (.int p0), some (.int (p0 - (Z.1 211 40))), some (.int 0)]) (st1 := []) (M1 := mjTo Z) rfl ?_
  exact f272_boxLeg_h9_ok mjF p0 (p0 - (Z.1 211 40)) 0 Z v9 h
def f273_kindOf (p0 : Int32) (Z : mjZt) : Option Int32 :=
  if mjCmp .ge p0 (Z.1 211 40) = true then
    some 4
  else
    if mjIn p0 12 = true then
    some (Z.1 232 (mjIx p0))
    else none
set_option maxRecDepth 4000 in
theorem f273_kindOf_ok {p0 : Int32} {Z : mjZt} {v9 : Int32} (h : f273_kindOf p0 Z = some v9) : pG 273 0 (mjEnt [.ref 211, .int p0] (mjML 273)) [] (mjTo Z) (fun r M1 => r = some (.int v9) ∧ M1 = mjTo Z) := by
  unfold f273_kindOf at h
  show pG 273 0 [some (.ref 211), some (.int p0)] [] (mjTo Z) _
  refine pG_many 2 (pc1 := 2) (L1 := [some (.ref 211), some (.int p0)]) (st1 := [.ref 211, .int p0]) (M1 := mjTo Z) rfl ?_
  refine pG_getI (ci := 12) (f := 40) rfl rfl (Or.inl rfl) (by rfl) ?_
  by_cases hc101 : mjCmp .ge p0 (Z.1 211 40) = true
  · rw [if_pos hc101] at h
    refine pG_cmt (t := 17) rfl rfl hc101 ?_
    refine pG_many 1 (pc1 := 18) (L1 := [some (.ref 211), some (.int p0)]) (st1 := [.int 4]) (M1 := mjTo Z) rfl ?_
    simp only [Option.some.injEq] at h
    subst h
    exact pG_ret (r := some (.int 4)) rfl ⟨rfl, rfl⟩
  · rw [if_neg hc101] at h
    refine pG_cmf (t := 17) rfl rfl hc101 ?_
    refine pG_many 1 (pc1 := 9) (L1 := [some (.ref 211), some (.int p0)]) (st1 := [.ref 211]) (M1 := mjTo Z) rfl ?_
    refine pG_getR (ci := 12) (f := 47) (b := 232) rfl rfl rfl (by rfl) rfl ?_
    refine pG_many 1 (pc1 := 13) (L1 := [some (.ref 211), some (.int p0)]) (st1 := [.int p0, .ref 232]) (M1 := mjTo Z) rfl ?_
    have hk102 : mjIn p0 12 = true := by
      by_cases q9 : mjIn p0 12 = true
      · exact q9
      · rw [if_neg q9] at h; cases h
    rw [if_pos hk102] at h
    refine pG_ial rfl (by rfl) hk102 ?_
    refine pG_many 1 (pc1 := 18) (L1 := [some (.ref 211), some (.int p0)]) (st1 := [.int (Z.1 232 (mjIx p0))]) (M1 := mjTo Z) rfl ?_
    simp only [Option.some.injEq] at h
    subst h
    exact pG_ret (r := some (.int (Z.1 232 (mjIx p0)))) rfl ⟨rfl, rfl⟩
def f274_teamOf (p0 : Int32) (Z : mjZt) : Option Int32 :=
  if mjCmp .ge p0 (Z.1 211 40) = true then
    mjBp (f271_boxTeam p0 Z) fun v103 =>
    some v103
  else
    if mjIn p0 12 = true then
    some (Z.1 233 (mjIx p0))
    else none
set_option maxRecDepth 4000 in
theorem f274_teamOf_ok {p0 : Int32} {Z : mjZt} {v9 : Int32} (h : f274_teamOf p0 Z = some v9) : pG 274 0 (mjEnt [.ref 211, .int p0] (mjML 274)) [] (mjTo Z) (fun r M1 => r = some (.int v9) ∧ M1 = mjTo Z) := by
  unfold f274_teamOf at h
  show pG 274 0 [some (.ref 211), some (.int p0)] [] (mjTo Z) _
  refine pG_many 2 (pc1 := 2) (L1 := [some (.ref 211), some (.int p0)]) (st1 := [.ref 211, .int p0]) (M1 := mjTo Z) rfl ?_
  refine pG_getI (ci := 12) (f := 40) rfl rfl (Or.inl rfl) (by rfl) ?_
  by_cases hc101 : mjCmp .ge p0 (Z.1 211 40) = true
  · rw [if_pos hc101] at h
    refine pG_cmt (t := 17) rfl rfl hc101 ?_
    refine pG_many 2 (pc1 := 19) (L1 := [some (.ref 211), some (.int p0)]) (st1 := [.int p0, .ref 211]) (M1 := mjTo Z) rfl ?_
    cases hq102 : f271_boxTeam p0 Z with
    | none => rw [hq102] at h; cases h
    | some v103 =>
      rw [hq102, mjBp_some] at h
      refine pG_callV (k2 := 271) (As := [.ref 211, .int p0]) (rest := []) rfl rfl rfl rfl rfl (by rfl) (by decide) (f271_boxTeam_ok hq102) ?_
      rintro r9 M9 ⟨rfl, rfl⟩
      show pG 274 22 [some (.ref 211), some (.int p0)] [.int v103] (mjTo Z) _
      simp only [Option.some.injEq] at h
      subst h
      exact pG_ret (r := some (.int v103)) rfl ⟨rfl, rfl⟩
  · rw [if_neg hc101] at h
    refine pG_cmf (t := 17) rfl rfl hc101 ?_
    refine pG_many 1 (pc1 := 9) (L1 := [some (.ref 211), some (.int p0)]) (st1 := [.ref 211]) (M1 := mjTo Z) rfl ?_
    refine pG_getR (ci := 12) (f := 48) (b := 233) rfl rfl rfl (by rfl) rfl ?_
    refine pG_many 1 (pc1 := 13) (L1 := [some (.ref 211), some (.int p0)]) (st1 := [.int p0, .ref 233]) (M1 := mjTo Z) rfl ?_
    have hk105 : mjIn p0 12 = true := by
      by_cases q9 : mjIn p0 12 = true
      · exact q9
      · rw [if_neg q9] at h; cases h
    rw [if_pos hk105] at h
    refine pG_ial rfl (by rfl) hk105 ?_
    refine pG_many 1 (pc1 := 22) (L1 := [some (.ref 211), some (.int p0)]) (st1 := [.int (Z.1 233 (mjIx p0))]) (M1 := mjTo Z) rfl ?_
    simp only [Option.some.injEq] at h
    subst h
    exact pG_ret (r := some (.int (Z.1 233 (mjIx p0)))) rfl ⟨rfl, rfl⟩
def f275_otherOf (p0 : Int32) (Z : mjZt) : Option Int32 :=
  if mjCmp .ge p0 (Z.1 211 40) = true then
    some ((-1))
  else
    if mjIn p0 12 = true then
    some (Z.1 234 (mjIx p0))
    else none
set_option maxRecDepth 4000 in
theorem f275_otherOf_ok {p0 : Int32} {Z : mjZt} {v9 : Int32} (h : f275_otherOf p0 Z = some v9) : pG 275 0 (mjEnt [.ref 211, .int p0] (mjML 275)) [] (mjTo Z) (fun r M1 => r = some (.int v9) ∧ M1 = mjTo Z) := by
  unfold f275_otherOf at h
  show pG 275 0 [some (.ref 211), some (.int p0)] [] (mjTo Z) _
  refine pG_many 2 (pc1 := 2) (L1 := [some (.ref 211), some (.int p0)]) (st1 := [.ref 211, .int p0]) (M1 := mjTo Z) rfl ?_
  refine pG_getI (ci := 12) (f := 40) rfl rfl (Or.inl rfl) (by rfl) ?_
  by_cases hc101 : mjCmp .ge p0 (Z.1 211 40) = true
  · rw [if_pos hc101] at h
    refine pG_cmt (t := 17) rfl rfl hc101 ?_
    refine pG_many 1 (pc1 := 18) (L1 := [some (.ref 211), some (.int p0)]) (st1 := [.int ((-1))]) (M1 := mjTo Z) rfl ?_
    simp only [Option.some.injEq] at h
    subst h
    exact pG_ret (r := some (.int ((-1)))) rfl ⟨rfl, rfl⟩
  · rw [if_neg hc101] at h
    refine pG_cmf (t := 17) rfl rfl hc101 ?_
    refine pG_many 1 (pc1 := 9) (L1 := [some (.ref 211), some (.int p0)]) (st1 := [.ref 211]) (M1 := mjTo Z) rfl ?_
    refine pG_getR (ci := 12) (f := 49) (b := 234) rfl rfl rfl (by rfl) rfl ?_
    refine pG_many 1 (pc1 := 13) (L1 := [some (.ref 211), some (.int p0)]) (st1 := [.int p0, .ref 234]) (M1 := mjTo Z) rfl ?_
    have hk102 : mjIn p0 12 = true := by
      by_cases q9 : mjIn p0 12 = true
      · exact q9
      · rw [if_neg q9] at h; cases h
    rw [if_pos hk102] at h
    refine pG_ial rfl (by rfl) hk102 ?_
    refine pG_many 1 (pc1 := 18) (L1 := [some (.ref 211), some (.int p0)]) (st1 := [.int (Z.1 234 (mjIx p0))]) (M1 := mjTo Z) rfl ?_
    simp only [Option.some.injEq] at h
    subst h
    exact pG_ret (r := some (.int (Z.1 234 (mjIx p0)))) rfl ⟨rfl, rfl⟩
def f276_tenthOf (p0 : Int32) (Z : mjZt) : Option Int32 :=
  if mjCmp .ge p0 (Z.1 211 40) = true then
    mjBp (f271_boxTeam p0 Z) fun v103 =>
    mjBp (f272_boxLeg p0 Z) fun v106 =>
    mjBp (f245_endTenth v103 v106 Z) fun v109 =>
    some v109
  else
    if mjIn (72 + (3 * p0)) 108 = true then
    some (Z.1 239 (mjIx (72 + (3 * p0))))
    else none
set_option maxRecDepth 4000 in
theorem f276_tenthOf_ok {p0 : Int32} {Z : mjZt} {v9 : Int32} (h : f276_tenthOf p0 Z = some v9) : pG 276 0 (mjEnt [.ref 211, .int p0] (mjML 276)) [] (mjTo Z) (fun r M1 => r = some (.int v9) ∧ M1 = mjTo Z) := by
  unfold f276_tenthOf at h
  show pG 276 0 [some (.ref 211), some (.int p0)] [] (mjTo Z) _
  refine pG_many 2 (pc1 := 2) (L1 := [some (.ref 211), some (.int p0)]) (st1 := [.ref 211, .int p0]) (M1 := mjTo Z) rfl ?_
  refine pG_getI (ci := 12) (f := 40) rfl rfl (Or.inl rfl) (by rfl) ?_
  by_cases hc101 : mjCmp .ge p0 (Z.1 211 40) = true
  · rw [if_pos hc101] at h
    refine pG_cmt (t := 22) rfl rfl hc101 ?_
    refine pG_many 3 (pc1 := 25) (L1 := [some (.ref 211), some (.int p0)]) (st1 := [.int p0, .ref 211, .ref 211]) (M1 := mjTo Z) rfl ?_
    cases hq102 : f271_boxTeam p0 Z with
    | none => rw [hq102] at h; cases h
    | some v103 =>
      rw [hq102, mjBp_some] at h
      refine pG_callV (k2 := 271) (As := [.ref 211, .int p0]) (rest := [.ref 211]) rfl rfl rfl rfl rfl (by rfl) (by decide) (f271_boxTeam_ok hq102) ?_
      rintro r9 M9 ⟨rfl, rfl⟩
      show pG 276 28 [some (.ref 211), some (.int p0)] [.int v103, .ref 211] (mjTo Z) _
      refine pG_many 2 (pc1 := 30) (L1 := [some (.ref 211), some (.int p0)]) (st1 := [.int p0, .ref 211, .int v103, .ref 211]) (M1 := mjTo Z) rfl ?_
      cases hq105 : f272_boxLeg p0 Z with
      | none => rw [hq105] at h; cases h
      | some v106 =>
        rw [hq105, mjBp_some] at h
        refine pG_callV (k2 := 272) (As := [.ref 211, .int p0]) (rest := [.int v103, .ref 211]) rfl rfl rfl rfl rfl (by rfl) (by decide) (f272_boxLeg_ok hq105) ?_
        rintro r9 M9 ⟨rfl, rfl⟩
        show pG 276 33 [some (.ref 211), some (.int p0)] [.int v106, .int v103, .ref 211] (mjTo Z) _
        cases hq108 : f245_endTenth v103 v106 Z with
        | none => rw [hq108] at h; cases h
        | some v109 =>
          rw [hq108, mjBp_some] at h
          refine pG_callV (k2 := 245) (As := [.ref 211, .int v103, .int v106]) (rest := []) rfl rfl rfl rfl rfl (by rfl) (by decide) (f245_endTenth_ok hq108) ?_
          rintro r9 M9 ⟨rfl, rfl⟩
          show pG 276 36 [some (.ref 211), some (.int p0)] [.int v109] (mjTo Z) _
          simp only [Option.some.injEq] at h
          subst h
          exact pG_ret (r := some (.int v109)) rfl ⟨rfl, rfl⟩
  · rw [if_neg hc101] at h
    refine pG_cmf (t := 22) rfl rfl hc101 ?_
    refine pG_many 1 (pc1 := 9) (L1 := [some (.ref 211), some (.int p0)]) (st1 := [.ref 211]) (M1 := mjTo Z) rfl ?_
    refine pG_getR (ci := 12) (f := 54) (b := 239) rfl rfl rfl (by rfl) rfl ?_
    refine pG_many 5 (pc1 := 18) (L1 := [some (.ref 211), some (.int p0)]) (st1 := [.int (72 + (3 * p0)), .ref 239]) (M1 := mjTo Z) rfl ?_
    have hk111 : mjIn (72 + (3 * p0)) 108 = true := by
      by_cases q9 : mjIn (72 + (3 * p0)) 108 = true
      · exact q9
      · rw [if_neg q9] at h; cases h
    rw [if_pos hk111] at h
    refine pG_ial rfl (by rfl) hk111 ?_
    refine pG_many 1 (pc1 := 36) (L1 := [some (.ref 211), some (.int p0)]) (st1 := [.int (Z.1 239 (mjIx (72 + (3 * p0))))]) (M1 := mjTo Z) rfl ?_
    simp only [Option.some.injEq] at h
    subst h
    exact pG_ret (r := some (.int (Z.1 239 (mjIx (72 + (3 * p0)))))) rfl ⟨rfl, rfl⟩
def f277_sizeOf (p0 : Int32) (Z : mjZt) : Option Int32 :=
  if mjCmp .ge p0 (Z.1 211 40) = true then
    mjBp (f271_boxTeam p0 Z) fun v103 =>
    mjBp (f272_boxLeg p0 Z) fun v106 =>
    mjBp (f243_metresOf v103 v106 Z) fun v109 =>
    if mjCmp .ge v109 (-(Z.1 229 2)) = true then
      if mjCmp .le v109 (Z.1 229 3) = true then
        some 0
      else
        some (v109 - (Z.1 229 3))
    else
      some ((-(Z.1 229 2)) - v109)
  else
    if mjIn ((72 + (3 * p0)) + 1) 108 = true then
    some (Z.1 239 (mjIx ((72 + (3 * p0)) + 1)))
    else none
set_option maxRecDepth 4000 in
theorem f277_sizeOf_ok {p0 : Int32} {Z : mjZt} {v9 : Int32} (h : f277_sizeOf p0 Z = some v9) : pG 277 0 (mjEnt [.ref 211, .int p0] (mjML 277)) [] (mjTo Z) (fun r M1 => r = some (.int v9) ∧ M1 = mjTo Z) := by
  unfold f277_sizeOf at h
  show pG 277 0 [some (.ref 211), some (.int p0), none] [] (mjTo Z) _
  refine pG_many 2 (pc1 := 2) (L1 := [some (.ref 211), some (.int p0), none]) (st1 := [.ref 211, .int p0]) (M1 := mjTo Z) rfl ?_
  refine pG_getI (ci := 12) (f := 40) rfl rfl (Or.inl rfl) (by rfl) ?_
  by_cases hc101 : mjCmp .ge p0 (Z.1 211 40) = true
  · rw [if_pos hc101] at h
    refine pG_cmt (t := 22) rfl rfl hc101 ?_
    refine pG_many 3 (pc1 := 25) (L1 := [some (.ref 211), some (.int p0), none]) (st1 := [.int p0, .ref 211, .ref 211]) (M1 := mjTo Z) rfl ?_
    cases hq102 : f271_boxTeam p0 Z with
    | none => rw [hq102] at h; cases h
    | some v103 =>
      rw [hq102, mjBp_some] at h
      refine pG_callV (k2 := 271) (As := [.ref 211, .int p0]) (rest := [.ref 211]) rfl rfl rfl rfl rfl (by rfl) (by decide) (f271_boxTeam_ok hq102) ?_
      rintro r9 M9 ⟨rfl, rfl⟩
      show pG 277 28 [some (.ref 211), some (.int p0), none] [.int v103, .ref 211] (mjTo Z) _
      refine pG_many 2 (pc1 := 30) (L1 := [some (.ref 211), some (.int p0), none]) (st1 := [.int p0, .ref 211, .int v103, .ref 211]) (M1 := mjTo Z) rfl ?_
      cases hq105 : f272_boxLeg p0 Z with
      | none => rw [hq105] at h; cases h
      | some v106 =>
        rw [hq105, mjBp_some] at h
        refine pG_callV (k2 := 272) (As := [.ref 211, .int p0]) (rest := [.int v103, .ref 211]) rfl rfl rfl rfl rfl (by rfl) (by decide) (f272_boxLeg_ok hq105) ?_
        rintro r9 M9 ⟨rfl, rfl⟩
        show pG 277 33 [some (.ref 211), some (.int p0), none] [.int v106, .int v103, .ref 211] (mjTo Z) _
        cases hq108 : f243_metresOf v103 v106 Z with
        | none => rw [hq108] at h; cases h
        | some v109 =>
          rw [hq108, mjBp_some] at h
          refine pG_callV (k2 := 243) (As := [.ref 211, .int v103, .int v106]) (rest := []) rfl rfl rfl rfl rfl (by rfl) (by decide) (f243_metresOf_ok hq108) ?_
          rintro r9 M9 ⟨rfl, rfl⟩
          show pG 277 36 [some (.ref 211), some (.int p0), none] [.int v109] (mjTo Z) _
          refine pG_many 3 (pc1 := 39) (L1 := [some (.ref 211), some (.int p0), some (.int v109)]) (st1 := [.ref 211, .int v109]) (M1 := mjTo Z) rfl ?_
          refine pG_getR (ci := 12) (f := 44) (b := 229) rfl rfl rfl (by rfl) rfl ?_
          refine pG_many 1 (pc1 := 43) (L1 := [some (.ref 211), some (.int p0), some (.int v109)]) (st1 := [.int 2, .ref 229, .int v109]) (M1 := mjTo Z) rfl ?_
          refine pG_ial rfl (by rfl) (by decide) ?_
          refine pG_many 1 (pc1 := 45) (L1 := [some (.ref 211), some (.int p0), some (.int v109)]) (st1 := [.int (-(Z.1 229 2)), .int v109]) (M1 := mjTo Z) rfl ?_
          by_cases hc111 : mjCmp .ge v109 (-(Z.1 229 2)) = true
          · rw [if_pos hc111] at h
            refine pG_cmt (t := 60) rfl rfl hc111 ?_
            refine pG_many 2 (pc1 := 62) (L1 := [some (.ref 211), some (.int p0), some (.int v109)]) (st1 := [.ref 211, .int v109]) (M1 := mjTo Z) rfl ?_
            refine pG_getR (ci := 12) (f := 44) (b := 229) rfl rfl rfl (by rfl) rfl ?_
            refine pG_many 1 (pc1 := 66) (L1 := [some (.ref 211), some (.int p0), some (.int v109)]) (st1 := [.int 3, .ref 229, .int v109]) (M1 := mjTo Z) rfl ?_
            refine pG_ial rfl (by rfl) (by decide) ?_
            by_cases hc112 : mjCmp .le v109 (Z.1 229 3) = true
            · rw [if_pos hc112] at h
              refine pG_cmt (t := 81) rfl rfl hc112 ?_
              refine pG_many 1 (pc1 := 82) (L1 := [some (.ref 211), some (.int p0), some (.int v109)]) (st1 := [.int 0]) (M1 := mjTo Z) rfl ?_
              simp only [Option.some.injEq] at h
              subst h
              exact pG_ret (r := some (.int 0)) rfl ⟨rfl, rfl⟩
            · rw [if_neg hc112] at h
              refine pG_cmf (t := 81) rfl rfl hc112 ?_
              refine pG_many 2 (pc1 := 72) (L1 := [some (.ref 211), some (.int p0), some (.int v109)]) (st1 := [.ref 211, .int v109]) (M1 := mjTo Z) rfl ?_
              refine pG_getR (ci := 12) (f := 44) (b := 229) rfl rfl rfl (by rfl) rfl ?_
              refine pG_many 1 (pc1 := 76) (L1 := [some (.ref 211), some (.int p0), some (.int v109)]) (st1 := [.int 3, .ref 229, .int v109]) (M1 := mjTo Z) rfl ?_
              refine pG_ial rfl (by rfl) (by decide) ?_
              refine pG_many 2 (pc1 := 82) (L1 := [some (.ref 211), some (.int p0), some (.int v109)]) (st1 := [.int (v109 - (Z.1 229 3))]) (M1 := mjTo Z) rfl ?_
              simp only [Option.some.injEq] at h
              subst h
              exact pG_ret (r := some (.int (v109 - (Z.1 229 3)))) rfl ⟨rfl, rfl⟩
          · rw [if_neg hc111] at h
            refine pG_cmf (t := 60) rfl rfl hc111 ?_
            refine pG_many 1 (pc1 := 49) (L1 := [some (.ref 211), some (.int p0), some (.int v109)]) (st1 := [.ref 211]) (M1 := mjTo Z) rfl ?_
            refine pG_getR (ci := 12) (f := 44) (b := 229) rfl rfl rfl (by rfl) rfl ?_
            refine pG_many 1 (pc1 := 53) (L1 := [some (.ref 211), some (.int p0), some (.int v109)]) (st1 := [.int 2, .ref 229]) (M1 := mjTo Z) rfl ?_
            refine pG_ial rfl (by rfl) (by decide) ?_
            refine pG_many 4 (pc1 := 82) (L1 := [some (.ref 211), some (.int p0), some (.int v109)]) (st1 := [.int ((-(Z.1 229 2)) - v109)]) (M1 := mjTo Z) rfl ?_
            simp only [Option.some.injEq] at h
            subst h
            exact pG_ret (r := some (.int ((-(Z.1 229 2)) - v109))) rfl ⟨rfl, rfl⟩
  · rw [if_neg hc101] at h
    refine pG_cmf (t := 22) rfl rfl hc101 ?_
    refine pG_many 1 (pc1 := 9) (L1 := [some (.ref 211), some (.int p0), none]) (st1 := [.ref 211]) (M1 := mjTo Z) rfl ?_
    refine pG_getR (ci := 12) (f := 54) (b := 239) rfl rfl rfl (by rfl) rfl ?_
    refine pG_many 7 (pc1 := 20) (L1 := [some (.ref 211), some (.int p0), none]) (st1 := [.int ((72 + (3 * p0)) + 1), .ref 239]) (M1 := mjTo Z) rfl ?_
    have hk113 : mjIn ((72 + (3 * p0)) + 1) 108 = true := by
      by_cases q9 : mjIn ((72 + (3 * p0)) + 1) 108 = true
      · exact q9
      · rw [if_neg q9] at h; cases h
    rw [if_pos hk113] at h
    refine pG_ial rfl (by rfl) hk113 ?_
    simp only [Option.some.injEq] at h
    subst h
    exact pG_ret (r := some (.int (Z.1 239 (mjIx ((72 + (3 * p0)) + 1))))) rfl ⟨rfl, rfl⟩
def f278_isWaived_j41 (x1 : Int32) (s0 : Int32) (Z : mjZt) : Option Int32 :=
  if mjCmp .ne x1 (Z.1 211 59) = true then
    if mjCmp .eq s0 0 = true then
      some 0
    else
      some 1
  else
    if mjCmp .eq s0 1 = true then
      some 0
    else
      some 1
set_option maxRecDepth 4000 in
theorem f278_isWaived_j41_ok (x1 : Int32) (s0 : Int32) (d2 : Option Value) (Z : mjZt) (v9 : Int32) (h : f278_isWaived_j41 x1 s0 Z = some v9) : pG 278 41 [some (.ref 211), some (.int x1), d2] [.int s0] (mjTo Z) (fun r M1 => r = some (.int v9) ∧ M1 = mjTo Z) := by
  unfold f278_isWaived_j41 at h
  refine pG_many 4 (pc1 := 45) (L1 := [some (.ref 211), some (.int x1), some (.int s0)]) (st1 := [.ref 211, .int x1, .int s0]) (M1 := mjTo Z) rfl ?_
  refine pG_getI (ci := 12) (f := 59) rfl rfl (Or.inl rfl) (by rfl) ?_
  by_cases hc102 : mjCmp .ne x1 (Z.1 211 59) = true
  · rw [if_pos hc102] at h
    refine pG_cmt (t := 55) rfl rfl hc102 ?_
    refine pG_many 1 (pc1 := 56) (L1 := [some (.ref 211), some (.int x1), some (.int s0)]) (st1 := [.int 0, .int s0]) (M1 := mjTo Z) rfl ?_
    by_cases hc103 : mjCmp .eq s0 0 = true
    · rw [if_pos hc103] at h
      refine pG_cmt (t := 63) rfl rfl hc103 ?_
      refine pG_many 1 (pc1 := 64) (L1 := [some (.ref 211), some (.int x1), some (.int s0)]) (st1 := [.int 0]) (M1 := mjTo Z) rfl ?_
      simp only [Option.some.injEq] at h
      subst h
      exact pG_ret (r := some (.int 0)) rfl ⟨rfl, rfl⟩
    · rw [if_neg hc103] at h
      refine pG_cmf (t := 63) rfl rfl hc103 ?_
      refine pG_many 2 (pc1 := 64) (L1 := [some (.ref 211), some (.int x1), some (.int s0)]) (st1 := [.int 1]) (M1 := mjTo Z) rfl ?_
      simp only [Option.some.injEq] at h
      subst h
      exact pG_ret (r := some (.int 1)) rfl ⟨rfl, rfl⟩
  · rw [if_neg hc102] at h
    refine pG_cmf (t := 55) rfl rfl hc102 ?_
    refine pG_many 2 (pc1 := 56) (L1 := [some (.ref 211), some (.int x1), some (.int s0)]) (st1 := [.int 1, .int s0]) (M1 := mjTo Z) rfl ?_
    by_cases hc104 : mjCmp .eq s0 1 = true
    · rw [if_pos hc104] at h
      refine pG_cmt (t := 63) rfl rfl hc104 ?_
      refine pG_many 1 (pc1 := 64) (L1 := [some (.ref 211), some (.int x1), some (.int s0)]) (st1 := [.int 0]) (M1 := mjTo Z) rfl ?_
      simp only [Option.some.injEq] at h
      subst h
      exact pG_ret (r := some (.int 0)) rfl ⟨rfl, rfl⟩
    · rw [if_neg hc104] at h
      refine pG_cmf (t := 63) rfl rfl hc104 ?_
      refine pG_many 2 (pc1 := 64) (L1 := [some (.ref 211), some (.int x1), some (.int s0)]) (st1 := [.int 1]) (M1 := mjTo Z) rfl ?_
      simp only [Option.some.injEq] at h
      subst h
      exact pG_ret (r := some (.int 1)) rfl ⟨rfl, rfl⟩
def f278_isWaived_j40 (x1 : Int32) (Z : mjZt) : Option Int32 :=
  f278_isWaived_j41 x1 0 Z
set_option maxRecDepth 4000 in
theorem f278_isWaived_j40_ok (x1 : Int32) (d2 : Option Value) (Z : mjZt) (v9 : Int32) (h : f278_isWaived_j40 x1 Z = some v9) : pG 278 40 [some (.ref 211), some (.int x1), d2] [] (mjTo Z) (fun r M1 => r = some (.int v9) ∧ M1 = mjTo Z) := by
  unfold f278_isWaived_j40 at h
  refine pG_many 1 (pc1 := 41) (L1 := [some (.ref 211), some (.int x1), d2]) (st1 := [.int 0]) (M1 := mjTo Z) rfl ?_
  exact f278_isWaived_j41_ok x1 0 d2 Z v9 h
def f278_isWaived_j36 (x1 : Int32) (Z : mjZt) : Option Int32 :=
  f278_isWaived_j41 x1 1 Z
set_option maxRecDepth 4000 in
theorem f278_isWaived_j36_ok (x1 : Int32) (d2 : Option Value) (Z : mjZt) (v9 : Int32) (h : f278_isWaived_j36 x1 Z = some v9) : pG 278 36 [some (.ref 211), some (.int x1), d2] [] (mjTo Z) (fun r M1 => r = some (.int v9) ∧ M1 = mjTo Z) := by
  unfold f278_isWaived_j36 at h
  refine pG_many 2 (pc1 := 41) (L1 := [some (.ref 211), some (.int x1), d2]) (st1 := [.int 1]) (M1 := mjTo Z) rfl ?_
  exact f278_isWaived_j41_ok x1 1 d2 Z v9 h
def f278_isWaived (p0 : Int32) (Z : mjZt) : Option Int32 :=
  if mjCmp .ge p0 (Z.1 211 40) = true then
    f278_isWaived_j40 p0 Z
  else
    if mjIn ((72 + (3 * p0)) + 2) 108 = true then
    if mjCmp .eq (Z.1 239 (mjIx ((72 + (3 * p0)) + 2))) 1 = true then
      f278_isWaived_j36 p0 Z
    else
      mjBp (f197_holds1 (Z.1 211 60) p0 Z) fun v108 =>
      if mjCmp .eq v108 0 = true then
        f278_isWaived_j40 p0 Z
      else
        f278_isWaived_j36 p0 Z
    else none
set_option maxRecDepth 4000 in
theorem f278_isWaived_ok {p0 : Int32} {Z : mjZt} {v9 : Int32} (h : f278_isWaived p0 Z = some v9) : pG 278 0 (mjEnt [.ref 211, .int p0] (mjML 278)) [] (mjTo Z) (fun r M1 => r = some (.int v9) ∧ M1 = mjTo Z) := by
  unfold f278_isWaived at h
  show pG 278 0 [some (.ref 211), some (.int p0), none] [] (mjTo Z) _
  refine pG_many 2 (pc1 := 2) (L1 := [some (.ref 211), some (.int p0), none]) (st1 := [.ref 211, .int p0]) (M1 := mjTo Z) rfl ?_
  refine pG_getI (ci := 12) (f := 40) rfl rfl (Or.inl rfl) (by rfl) ?_
  by_cases hc101 : mjCmp .ge p0 (Z.1 211 40) = true
  · rw [if_pos hc101] at h
    refine pG_cmt (t := 40) rfl rfl hc101 ?_
    exact f278_isWaived_j40_ok p0 none Z v9 h
  · rw [if_neg hc101] at h
    refine pG_cmf (t := 40) rfl rfl hc101 ?_
    refine pG_many 1 (pc1 := 9) (L1 := [some (.ref 211), some (.int p0), none]) (st1 := [.ref 211]) (M1 := mjTo Z) rfl ?_
    refine pG_getR (ci := 12) (f := 54) (b := 239) rfl rfl rfl (by rfl) rfl ?_
    refine pG_many 7 (pc1 := 20) (L1 := [some (.ref 211), some (.int p0), none]) (st1 := [.int ((72 + (3 * p0)) + 2), .ref 239]) (M1 := mjTo Z) rfl ?_
    have hk105 : mjIn ((72 + (3 * p0)) + 2) 108 = true := by
      by_cases q9 : mjIn ((72 + (3 * p0)) + 2) 108 = true
      · exact q9
      · rw [if_neg q9] at h; cases h
    rw [if_pos hk105] at h
    refine pG_ial rfl (by rfl) hk105 ?_
    refine pG_many 1 (pc1 := 22) (L1 := [some (.ref 211), some (.int p0), none]) (st1 := [.int 1, .int (Z.1 239 (mjIx ((72 + (3 * p0)) + 2)))]) (M1 := mjTo Z) rfl ?_
    by_cases hc106 : mjCmp .eq (Z.1 239 (mjIx ((72 + (3 * p0)) + 2))) 1 = true
    · rw [if_pos hc106] at h
      refine pG_cmt (t := 36) rfl rfl hc106 ?_
      exact f278_isWaived_j36_ok p0 none Z v9 h
    · rw [if_neg hc106] at h
      refine pG_cmf (t := 36) rfl rfl hc106 ?_
      refine pG_many 1 (pc1 := 26) (L1 := [some (.ref 211), some (.int p0), none]) (st1 := [.ref 211]) (M1 := mjTo Z) rfl ?_
      refine pG_getI (ci := 12) (f := 60) rfl rfl (Or.inl rfl) (by rfl) ?_
      refine pG_many 1 (pc1 := 30) (L1 := [some (.ref 211), some (.int p0), none]) (st1 := [.int p0, .int (Z.1 211 60)]) (M1 := mjTo Z) rfl ?_
      cases hq107 : f197_holds1 (Z.1 211 60) p0 Z with
      | none => rw [hq107] at h; cases h
      | some v108 =>
        rw [hq107, mjBp_some] at h
        refine pG_call (k2 := 197) (As := [.int (Z.1 211 60), .int p0]) (rest := []) rfl (by decide) (f197_holds1_ok hq107) ?_
        rintro r9 M9 ⟨rfl, rfl⟩
        show pG 278 33 [some (.ref 211), some (.int p0), none] [.int v108] (mjTo Z) _
        by_cases hc110 : mjCmp .eq v108 0 = true
        · rw [if_pos hc110] at h
          refine pG_ift (t := 40) rfl rfl hc110 ?_
          exact f278_isWaived_j40_ok p0 none Z v9 h
        · rw [if_neg hc110] at h
          refine pG_iff (t := 40) rfl rfl hc110 ?_
          exact f278_isWaived_j36_ok p0 none Z v9 h
def f279_isAhead (p0 : Int32) (p1 : Int32) (Z : mjZt) : Option Int32 :=
  mjBp (f276_tenthOf p0 Z) fun v102 =>
  mjBp (f276_tenthOf p1 Z) fun v105 =>
  if mjCmp .lt v102 v105 = true then
    some 1
  else
    if mjCmp .ne v102 v105 = true then
      some 0
    else
      if mjCmp .ge p0 p1 = true then
        some 0
      else
        some 1
set_option maxRecDepth 4000 in
theorem f279_isAhead_ok {p0 : Int32} {p1 : Int32} {Z : mjZt} {v9 : Int32} (h : f279_isAhead p0 p1 Z = some v9) : pG 279 0 (mjEnt [.ref 211, .int p0, .int p1] (mjML 279)) [] (mjTo Z) (fun r M1 => r = some (.int v9) ∧ M1 = mjTo Z) := by
  unfold f279_isAhead at h
  show pG 279 0 [some (.ref 211), some (.int p0), some (.int p1)] [] (mjTo Z) _
  refine pG_many 2 (pc1 := 2) (L1 := [some (.ref 211), some (.int p0), some (.int p1)]) (st1 := [.int p0, .ref 211]) (M1 := mjTo Z) rfl ?_
  cases hq101 : f276_tenthOf p0 Z with
  | none => rw [hq101] at h; cases h
  | some v102 =>
    rw [hq101, mjBp_some] at h
    refine pG_callV (k2 := 276) (As := [.ref 211, .int p0]) (rest := []) rfl rfl rfl rfl rfl (by rfl) (by decide) (f276_tenthOf_ok hq101) ?_
    rintro r9 M9 ⟨rfl, rfl⟩
    show pG 279 5 [some (.ref 211), some (.int p0), some (.int p1)] [.int v102] (mjTo Z) _
    refine pG_many 2 (pc1 := 7) (L1 := [some (.ref 211), some (.int p0), some (.int p1)]) (st1 := [.int p1, .ref 211, .int v102]) (M1 := mjTo Z) rfl ?_
    cases hq104 : f276_tenthOf p1 Z with
    | none => rw [hq104] at h; cases h
    | some v105 =>
      rw [hq104, mjBp_some] at h
      refine pG_callV (k2 := 276) (As := [.ref 211, .int p1]) (rest := [.int v102]) rfl rfl rfl rfl rfl (by rfl) (by decide) (f276_tenthOf_ok hq104) ?_
      rintro r9 M9 ⟨rfl, rfl⟩
      show pG 279 10 [some (.ref 211), some (.int p0), some (.int p1)] [.int v105, .int v102] (mjTo Z) _
      by_cases hc107 : mjCmp .lt v102 v105 = true
      · rw [if_pos hc107] at h
        refine pG_cmt (t := 31) rfl rfl hc107 ?_
        refine pG_many 2 (pc1 := 36) (L1 := [some (.ref 211), some (.int p0), some (.int p1)]) (st1 := [.int 1]) (M1 := mjTo Z) rfl ?_
        simp only [Option.some.injEq] at h
        subst h
        exact pG_ret (r := some (.int 1)) rfl ⟨rfl, rfl⟩
      · rw [if_neg hc107] at h
        refine pG_cmf (t := 31) rfl rfl hc107 ?_
        refine pG_many 2 (pc1 := 15) (L1 := [some (.ref 211), some (.int p0), some (.int p1)]) (st1 := [.int p0, .ref 211]) (M1 := mjTo Z) rfl ?_
        refine pG_callV (k2 := 276) (As := [.ref 211, .int p0]) (rest := []) rfl rfl rfl rfl rfl (by rfl) (by decide) (f276_tenthOf_ok hq101) ?_
        rintro r9 M9 ⟨rfl, rfl⟩
        show pG 279 18 [some (.ref 211), some (.int p0), some (.int p1)] [.int v102] (mjTo Z) _
        refine pG_many 2 (pc1 := 20) (L1 := [some (.ref 211), some (.int p0), some (.int p1)]) (st1 := [.int p1, .ref 211, .int v102]) (M1 := mjTo Z) rfl ?_
        refine pG_callV (k2 := 276) (As := [.ref 211, .int p1]) (rest := [.int v102]) rfl rfl rfl rfl rfl (by rfl) (by decide) (f276_tenthOf_ok hq104) ?_
        rintro r9 M9 ⟨rfl, rfl⟩
        show pG 279 23 [some (.ref 211), some (.int p0), some (.int p1)] [.int v105, .int v102] (mjTo Z) _
        by_cases hc114 : mjCmp .ne v102 v105 = true
        · rw [if_pos hc114] at h
          refine pG_cmt (t := 35) rfl rfl hc114 ?_
          refine pG_many 1 (pc1 := 36) (L1 := [some (.ref 211), some (.int p0), some (.int p1)]) (st1 := [.int 0]) (M1 := mjTo Z) rfl ?_
          simp only [Option.some.injEq] at h
          subst h
          exact pG_ret (r := some (.int 0)) rfl ⟨rfl, rfl⟩
        · rw [if_neg hc114] at h
          refine pG_cmf (t := 35) rfl rfl hc114 ?_
          refine pG_many 2 (pc1 := 28) (L1 := [some (.ref 211), some (.int p0), some (.int p1)]) (st1 := [.int p1, .int p0]) (M1 := mjTo Z) rfl ?_
          by_cases hc115 : mjCmp .ge p0 p1 = true
          · rw [if_pos hc115] at h
            refine pG_cmt (t := 35) rfl rfl hc115 ?_
            refine pG_many 1 (pc1 := 36) (L1 := [some (.ref 211), some (.int p0), some (.int p1)]) (st1 := [.int 0]) (M1 := mjTo Z) rfl ?_
            simp only [Option.some.injEq] at h
            subst h
            exact pG_ret (r := some (.int 0)) rfl ⟨rfl, rfl⟩
          · rw [if_neg hc115] at h
            refine pG_cmf (t := 35) rfl rfl hc115 ?_
            refine pG_many 2 (pc1 := 36) (L1 := [some (.ref 211), some (.int p0), some (.int p1)]) (st1 := [.int 1]) (M1 := mjTo Z) rfl ?_
            simp only [Option.some.injEq] at h
            subst h
            exact pG_ret (r := some (.int 1)) rfl ⟨rfl, rfl⟩
def f280_factOf_h358 : Nat → Int32 → Int32 → Int32 → Int32 → mjZt → Option Int32
  | 0, _, _, _, _, _ => none
  | n + 1, x4, x6, x7, x8, Z =>
    if mjCmp .ge x8 (Z.1 211 39) = true then
      some (x7 + 1)
    else
      mjBp (f249_placeOf x8 x4 Z) fun v116 =>
      if mjCmp .le v116 x6 = true then
        mjBp (f196_truth 0 Z) fun v120 =>
        f280_factOf_h358 n x4 x6 (x7 + v120) (x8 + 1) Z
      else
        mjBp (f196_truth 1 Z) fun v123 =>
        f280_factOf_h358 n x4 x6 (x7 + v123) (x8 + 1) Z
set_option maxRecDepth 4000 in
theorem f280_factOf_h358_ok : ∀ (n : Nat) (x4 : Int32) (x6 : Int32) (x7 : Int32) (x8 : Int32) (d1 d2 d3 d5 : Option Value) (Z : mjZt) (v9 : Int32), f280_factOf_h358 n x4 x6 x7 x8 Z = some v9 → pG 280 358 [some (.ref 211), d1, d2, d3, some (.int x4), d5, some (.int x6), some (.int x7), some (.int x8)] [] (mjTo Z) (fun r M1 => r = some (.int v9) ∧ M1 = mjTo Z)
  | 0, x4, x6, x7, x8, d1, d2, d3, d5, Z, v9, h => by rw [f280_factOf_h358] at h; cases h
  | n + 1, x4, x6, x7, x8, d1, d2, d3, d5, Z, v9, h => by
      rw [f280_factOf_h358] at h
      refine pG_many 2 (pc1 := 361) (L1 := [some (.ref 211), d1, d2, d3, some (.int x4), d5, some (.int x6), some (.int x7), some (.int x8)]) (st1 := [.ref 211, .int x8]) (M1 := mjTo Z) rfl ?_
      refine pG_getI (ci := 12) (f := 39) rfl rfl (Or.inl rfl) (by rfl) ?_
      by_cases hc114 : mjCmp .ge x8 (Z.1 211 39) = true
      · rw [if_pos hc114] at h
        refine pG_cmt (t := 399) rfl rfl hc114 ?_
        refine pG_many 3 (pc1 := 403) (L1 := [some (.ref 211), d1, d2, d3, some (.int x4), d5, some (.int x6), some (.int x7), some (.int x8)]) (st1 := [.int (x7 + 1)]) (M1 := mjTo Z) rfl ?_
        simp only [Option.some.injEq] at h
        subst h
        exact pG_ret (r := some (.int (x7 + 1))) rfl ⟨rfl, rfl⟩
      · rw [if_neg hc114] at h
        refine pG_cmf (t := 399) rfl rfl hc114 ?_
        refine pG_many 4 (pc1 := 374) (L1 := [some (.ref 211), d1, d2, d3, some (.int x4), d5, some (.int x6), some (.int x7), some (.int x8)]) (st1 := [.int x4, .int x8, .ref 211, .int x7]) (M1 := mjTo Z) rfl ?_
        cases hq115 : f249_placeOf x8 x4 Z with
        | none => rw [hq115] at h; cases h
        | some v116 =>
          rw [hq115, mjBp_some] at h
          refine pG_callV (k2 := 249) (As := [.ref 211, .int x8, .int x4]) (rest := [.int x7]) rfl rfl rfl rfl rfl (by rfl) (by decide) (f249_placeOf_ok hq115) ?_
          rintro r9 M9 ⟨rfl, rfl⟩
          show pG 280 377 [some (.ref 211), d1, d2, d3, some (.int x4), d5, some (.int x6), some (.int x7), some (.int x8)] [.int v116, .int x7] (mjTo Z) _
          refine pG_many 1 (pc1 := 379) (L1 := [some (.ref 211), d1, d2, d3, some (.int x4), d5, some (.int x6), some (.int x7), some (.int x8)]) (st1 := [.int x6, .int v116, .int x7]) (M1 := mjTo Z) rfl ?_
          by_cases hc118 : mjCmp .le v116 x6 = true
          · rw [if_pos hc118] at h
            refine pG_cmt (t := 386) rfl rfl hc118 ?_
            refine pG_many 1 (pc1 := 387) (L1 := [some (.ref 211), d1, d2, d3, some (.int x4), d5, some (.int x6), some (.int x7), some (.int x8)]) (st1 := [.int 0, .int x7]) (M1 := mjTo Z) rfl ?_
            cases hq119 : f196_truth 0 Z with
            | none => rw [hq119] at h; cases h
            | some v120 =>
              rw [hq119, mjBp_some] at h
              refine pG_call (k2 := 196) (As := [.int 0]) (rest := [.int x7]) rfl (by decide) (f196_truth_ok hq119) ?_
              rintro r9 M9 ⟨rfl, rfl⟩
              show pG 280 390 [some (.ref 211), d1, d2, d3, some (.int x4), d5, some (.int x6), some (.int x7), some (.int x8)] [.int v120, .int x7] (mjTo Z) _
              refine pG_many 4 (pc1 := 358) (L1 := [some (.ref 211), d1, d2, d3, some (.int x4), d5, some (.int x6), some (.int (x7 + v120)), some (.int (x8 + 1))]) (st1 := []) (M1 := mjTo Z) rfl ?_
              exact f280_factOf_h358_ok n x4 x6 (x7 + v120) (x8 + 1) d1 d2 d3 d5 Z v9 h
          · rw [if_neg hc118] at h
            refine pG_cmf (t := 386) rfl rfl hc118 ?_
            refine pG_many 2 (pc1 := 387) (L1 := [some (.ref 211), d1, d2, d3, some (.int x4), d5, some (.int x6), some (.int x7), some (.int x8)]) (st1 := [.int 1, .int x7]) (M1 := mjTo Z) rfl ?_
            cases hq122 : f196_truth 1 Z with
            | none => rw [hq122] at h; cases h
            | some v123 =>
              rw [hq122, mjBp_some] at h
              refine pG_call (k2 := 196) (As := [.int 1]) (rest := [.int x7]) rfl (by decide) (f196_truth_ok hq122) ?_
              rintro r9 M9 ⟨rfl, rfl⟩
              show pG 280 390 [some (.ref 211), d1, d2, d3, some (.int x4), d5, some (.int x6), some (.int x7), some (.int x8)] [.int v123, .int x7] (mjTo Z) _
              refine pG_many 4 (pc1 := 358) (L1 := [some (.ref 211), d1, d2, d3, some (.int x4), d5, some (.int x6), some (.int (x7 + v123)), some (.int (x8 + 1))]) (st1 := []) (M1 := mjTo Z) rfl ?_
              exact f280_factOf_h358_ok n x4 x6 (x7 + v123) (x8 + 1) d1 d2 d3 d5 Z v9 h
def f280_factOf_h196 : Nat → Int32 → Int32 → Int32 → Int32 → mjZt → Option Int32
  | 0, _, _, _, _, _ => none
  | n + 1, x1, x3, x7, x8, Z =>
    mjBp (f251_allActs  Z) fun v149 =>
    if mjCmp .ge x8 v149 = true then
      some x7
    else
      mjBp (f278_isWaived x8 Z) fun v153 =>
      if mjCmp .ne v153 0 = true then
        mjBp (f196_truth 0 Z) fun v157 =>
        f280_factOf_h196 n x1 x3 (x7 + v157) (x8 + 1) Z
      else
        mjBp (f273_kindOf x8 Z) fun v160 =>
        mjBp (f273_kindOf x1 Z) fun v163 =>
        if mjCmp .ne v160 v163 = true then
          mjBp (f196_truth 0 Z) fun v167 =>
          f280_factOf_h196 n x1 x3 (x7 + v167) (x8 + 1) Z
        else
          mjBp (f274_teamOf x8 Z) fun v170 =>
          if mjCmp .ne v170 x3 = true then
            mjBp (f196_truth 0 Z) fun v174 =>
            f280_factOf_h196 n x1 x3 (x7 + v174) (x8 + 1) Z
          else
            mjBp (f279_isAhead x8 x1 Z) fun v177 =>
            if mjCmp .eq v177 0 = true then
              mjBp (f196_truth 0 Z) fun v181 =>
              f280_factOf_h196 n x1 x3 (x7 + v181) (x8 + 1) Z
            else
              mjBp (f196_truth 1 Z) fun v184 =>
              f280_factOf_h196 n x1 x3 (x7 + v184) (x8 + 1) Z
set_option maxRecDepth 4000 in
theorem f280_factOf_h196_ok : ∀ (n : Nat) (x1 : Int32) (x3 : Int32) (x7 : Int32) (x8 : Int32) (d2 d4 d5 d6 : Option Value) (Z : mjZt) (v9 : Int32), f280_factOf_h196 n x1 x3 x7 x8 Z = some v9 → pG 280 196 [some (.ref 211), some (.int x1), d2, some (.int x3), d4, d5, d6, some (.int x7), some (.int x8)] [] (mjTo Z) (fun r M1 => r = some (.int v9) ∧ M1 = mjTo Z)
  | 0, x1, x3, x7, x8, d2, d4, d5, d6, Z, v9, h => by rw [f280_factOf_h196] at h; cases h
  | n + 1, x1, x3, x7, x8, d2, d4, d5, d6, Z, v9, h => by
      rw [f280_factOf_h196] at h
      refine pG_many 2 (pc1 := 199) (L1 := [some (.ref 211), some (.int x1), d2, some (.int x3), d4, d5, d6, some (.int x7), some (.int x8)]) (st1 := [.ref 211, .int x8]) (M1 := mjTo Z) rfl ?_
      cases hq148 : f251_allActs  Z with
      | none => rw [hq148] at h; cases h
      | some v149 =>
        rw [hq148, mjBp_some] at h
        refine pG_callV (k2 := 251) (As := [.ref 211]) (rest := [.int x8]) rfl rfl rfl rfl rfl (by rfl) (by decide) (f251_allActs_ok hq148) ?_
        rintro r9 M9 ⟨rfl, rfl⟩
        show pG 280 202 [some (.ref 211), some (.int x1), d2, some (.int x3), d4, d5, d6, some (.int x7), some (.int x8)] [.int v149, .int x8] (mjTo Z) _
        by_cases hc151 : mjCmp .ge x8 v149 = true
        · rw [if_pos hc151] at h
          refine pG_cmt (t := 267) rfl rfl hc151 ?_
          refine pG_many 1 (pc1 := 269) (L1 := [some (.ref 211), some (.int x1), d2, some (.int x3), d4, d5, d6, some (.int x7), some (.int x8)]) (st1 := [.int x7]) (M1 := mjTo Z) rfl ?_
          simp only [Option.some.injEq] at h
          subst h
          exact pG_ret (r := some (.int x7)) rfl ⟨rfl, rfl⟩
        · rw [if_neg hc151] at h
          refine pG_cmf (t := 267) rfl rfl hc151 ?_
          refine pG_many 3 (pc1 := 210) (L1 := [some (.ref 211), some (.int x1), d2, some (.int x3), d4, d5, d6, some (.int x7), some (.int x8)]) (st1 := [.int x8, .ref 211, .int x7]) (M1 := mjTo Z) rfl ?_
          cases hq152 : f278_isWaived x8 Z with
          | none => rw [hq152] at h; cases h
          | some v153 =>
            rw [hq152, mjBp_some] at h
            refine pG_callV (k2 := 278) (As := [.ref 211, .int x8]) (rest := [.int x7]) rfl rfl rfl rfl rfl (by rfl) (by decide) (f278_isWaived_ok hq152) ?_
            rintro r9 M9 ⟨rfl, rfl⟩
            show pG 280 213 [some (.ref 211), some (.int x1), d2, some (.int x3), d4, d5, d6, some (.int x7), some (.int x8)] [.int v153, .int x7] (mjTo Z) _
            by_cases hc155 : mjCmp .ne v153 0 = true
            · rw [if_pos hc155] at h
              refine pG_ift (t := 254) rfl rfl hc155 ?_
              refine pG_many 1 (pc1 := 255) (L1 := [some (.ref 211), some (.int x1), d2, some (.int x3), d4, d5, d6, some (.int x7), some (.int x8)]) (st1 := [.int 0, .int x7]) (M1 := mjTo Z) rfl ?_
              cases hq156 : f196_truth 0 Z with
              | none => rw [hq156] at h; cases h
              | some v157 =>
                rw [hq156, mjBp_some] at h
                refine pG_call (k2 := 196) (As := [.int 0]) (rest := [.int x7]) rfl (by decide) (f196_truth_ok hq156) ?_
                rintro r9 M9 ⟨rfl, rfl⟩
                show pG 280 258 [some (.ref 211), some (.int x1), d2, some (.int x3), d4, d5, d6, some (.int x7), some (.int x8)] [.int v157, .int x7] (mjTo Z) _
                refine pG_many 4 (pc1 := 196) (L1 := [some (.ref 211), some (.int x1), d2, some (.int x3), d4, d5, (mjK1 d6), some (.int (x7 + v157)), some (.int (x8 + 1))]) (st1 := []) (M1 := mjTo Z) rfl ?_
                exact f280_factOf_h196_ok n x1 x3 (x7 + v157) (x8 + 1) d2 d4 d5 ((mjK1 d6)) Z v9 h
            · rw [if_neg hc155] at h
              refine pG_iff (t := 254) rfl rfl hc155 ?_
              refine pG_many 2 (pc1 := 219) (L1 := [some (.ref 211), some (.int x1), d2, some (.int x3), d4, d5, d6, some (.int x7), some (.int x8)]) (st1 := [.int x8, .ref 211, .int x7]) (M1 := mjTo Z) rfl ?_
              cases hq159 : f273_kindOf x8 Z with
              | none => rw [hq159] at h; cases h
              | some v160 =>
                rw [hq159, mjBp_some] at h
                refine pG_callV (k2 := 273) (As := [.ref 211, .int x8]) (rest := [.int x7]) rfl rfl rfl rfl rfl (by rfl) (by decide) (f273_kindOf_ok hq159) ?_
                rintro r9 M9 ⟨rfl, rfl⟩
                show pG 280 222 [some (.ref 211), some (.int x1), d2, some (.int x3), d4, d5, d6, some (.int x7), some (.int x8)] [.int v160, .int x7] (mjTo Z) _
                refine pG_many 2 (pc1 := 224) (L1 := [some (.ref 211), some (.int x1), d2, some (.int x3), d4, d5, d6, some (.int x7), some (.int x8)]) (st1 := [.int x1, .ref 211, .int v160, .int x7]) (M1 := mjTo Z) rfl ?_
                cases hq162 : f273_kindOf x1 Z with
                | none => rw [hq162] at h; cases h
                | some v163 =>
                  rw [hq162, mjBp_some] at h
                  refine pG_callV (k2 := 273) (As := [.ref 211, .int x1]) (rest := [.int v160, .int x7]) rfl rfl rfl rfl rfl (by rfl) (by decide) (f273_kindOf_ok hq162) ?_
                  rintro r9 M9 ⟨rfl, rfl⟩
                  show pG 280 227 [some (.ref 211), some (.int x1), d2, some (.int x3), d4, d5, d6, some (.int x7), some (.int x8)] [.int v163, .int v160, .int x7] (mjTo Z) _
                  by_cases hc165 : mjCmp .ne v160 v163 = true
                  · rw [if_pos hc165] at h
                    refine pG_cmt (t := 254) rfl rfl hc165 ?_
                    refine pG_many 1 (pc1 := 255) (L1 := [some (.ref 211), some (.int x1), d2, some (.int x3), d4, d5, d6, some (.int x7), some (.int x8)]) (st1 := [.int 0, .int x7]) (M1 := mjTo Z) rfl ?_
                    cases hq166 : f196_truth 0 Z with
                    | none => rw [hq166] at h; cases h
                    | some v167 =>
                      rw [hq166, mjBp_some] at h
                      refine pG_call (k2 := 196) (As := [.int 0]) (rest := [.int x7]) rfl (by decide) (f196_truth_ok hq166) ?_
                      rintro r9 M9 ⟨rfl, rfl⟩
                      show pG 280 258 [some (.ref 211), some (.int x1), d2, some (.int x3), d4, d5, d6, some (.int x7), some (.int x8)] [.int v167, .int x7] (mjTo Z) _
                      refine pG_many 4 (pc1 := 196) (L1 := [some (.ref 211), some (.int x1), d2, some (.int x3), d4, d5, (mjK1 d6), some (.int (x7 + v167)), some (.int (x8 + 1))]) (st1 := []) (M1 := mjTo Z) rfl ?_
                      exact f280_factOf_h196_ok n x1 x3 (x7 + v167) (x8 + 1) d2 d4 d5 ((mjK1 d6)) Z v9 h
                  · rw [if_neg hc165] at h
                    refine pG_cmf (t := 254) rfl rfl hc165 ?_
                    refine pG_many 2 (pc1 := 233) (L1 := [some (.ref 211), some (.int x1), d2, some (.int x3), d4, d5, d6, some (.int x7), some (.int x8)]) (st1 := [.int x8, .ref 211, .int x7]) (M1 := mjTo Z) rfl ?_
                    cases hq169 : f274_teamOf x8 Z with
                    | none => rw [hq169] at h; cases h
                    | some v170 =>
                      rw [hq169, mjBp_some] at h
                      refine pG_callV (k2 := 274) (As := [.ref 211, .int x8]) (rest := [.int x7]) rfl rfl rfl rfl rfl (by rfl) (by decide) (f274_teamOf_ok hq169) ?_
                      rintro r9 M9 ⟨rfl, rfl⟩
                      show pG 280 236 [some (.ref 211), some (.int x1), d2, some (.int x3), d4, d5, d6, some (.int x7), some (.int x8)] [.int v170, .int x7] (mjTo Z) _
                      refine pG_many 1 (pc1 := 237) (L1 := [some (.ref 211), some (.int x1), d2, some (.int x3), d4, d5, d6, some (.int x7), some (.int x8)]) (st1 := [.int x3, .int v170, .int x7]) (M1 := mjTo Z) rfl ?_
                      by_cases hc172 : mjCmp .ne v170 x3 = true
                      · rw [if_pos hc172] at h
                        refine pG_cmt (t := 254) rfl rfl hc172 ?_
                        refine pG_many 1 (pc1 := 255) (L1 := [some (.ref 211), some (.int x1), d2, some (.int x3), d4, d5, d6, some (.int x7), some (.int x8)]) (st1 := [.int 0, .int x7]) (M1 := mjTo Z) rfl ?_
                        cases hq173 : f196_truth 0 Z with
                        | none => rw [hq173] at h; cases h
                        | some v174 =>
                          rw [hq173, mjBp_some] at h
                          refine pG_call (k2 := 196) (As := [.int 0]) (rest := [.int x7]) rfl (by decide) (f196_truth_ok hq173) ?_
                          rintro r9 M9 ⟨rfl, rfl⟩
                          show pG 280 258 [some (.ref 211), some (.int x1), d2, some (.int x3), d4, d5, d6, some (.int x7), some (.int x8)] [.int v174, .int x7] (mjTo Z) _
                          refine pG_many 4 (pc1 := 196) (L1 := [some (.ref 211), some (.int x1), d2, some (.int x3), d4, d5, (mjK1 d6), some (.int (x7 + v174)), some (.int (x8 + 1))]) (st1 := []) (M1 := mjTo Z) rfl ?_
                          exact f280_factOf_h196_ok n x1 x3 (x7 + v174) (x8 + 1) d2 d4 d5 ((mjK1 d6)) Z v9 h
                      · rw [if_neg hc172] at h
                        refine pG_cmf (t := 254) rfl rfl hc172 ?_
                        refine pG_many 3 (pc1 := 244) (L1 := [some (.ref 211), some (.int x1), d2, some (.int x3), d4, d5, d6, some (.int x7), some (.int x8)]) (st1 := [.int x1, .int x8, .ref 211, .int x7]) (M1 := mjTo Z) rfl ?_
                        cases hq176 : f279_isAhead x8 x1 Z with
                        | none => rw [hq176] at h; cases h
                        | some v177 =>
                          rw [hq176, mjBp_some] at h
                          refine pG_callV (k2 := 279) (As := [.ref 211, .int x8, .int x1]) (rest := [.int x7]) rfl rfl rfl rfl rfl (by rfl) (by decide) (f279_isAhead_ok hq176) ?_
                          rintro r9 M9 ⟨rfl, rfl⟩
                          show pG 280 247 [some (.ref 211), some (.int x1), d2, some (.int x3), d4, d5, d6, some (.int x7), some (.int x8)] [.int v177, .int x7] (mjTo Z) _
                          by_cases hc179 : mjCmp .eq v177 0 = true
                          · rw [if_pos hc179] at h
                            refine pG_ift (t := 254) rfl rfl hc179 ?_
                            refine pG_many 1 (pc1 := 255) (L1 := [some (.ref 211), some (.int x1), d2, some (.int x3), d4, d5, d6, some (.int x7), some (.int x8)]) (st1 := [.int 0, .int x7]) (M1 := mjTo Z) rfl ?_
                            cases hq180 : f196_truth 0 Z with
                            | none => rw [hq180] at h; cases h
                            | some v181 =>
                              rw [hq180, mjBp_some] at h
                              refine pG_call (k2 := 196) (As := [.int 0]) (rest := [.int x7]) rfl (by decide) (f196_truth_ok hq180) ?_
                              rintro r9 M9 ⟨rfl, rfl⟩
                              show pG 280 258 [some (.ref 211), some (.int x1), d2, some (.int x3), d4, d5, d6, some (.int x7), some (.int x8)] [.int v181, .int x7] (mjTo Z) _
                              refine pG_many 4 (pc1 := 196) (L1 := [some (.ref 211), some (.int x1), d2, some (.int x3), d4, d5, (mjK1 d6), some (.int (x7 + v181)), some (.int (x8 + 1))]) (st1 := []) (M1 := mjTo Z) rfl ?_
                              exact f280_factOf_h196_ok n x1 x3 (x7 + v181) (x8 + 1) d2 d4 d5 ((mjK1 d6)) Z v9 h
                          · rw [if_neg hc179] at h
                            refine pG_iff (t := 254) rfl rfl hc179 ?_
                            refine pG_many 2 (pc1 := 255) (L1 := [some (.ref 211), some (.int x1), d2, some (.int x3), d4, d5, d6, some (.int x7), some (.int x8)]) (st1 := [.int 1, .int x7]) (M1 := mjTo Z) rfl ?_
                            cases hq183 : f196_truth 1 Z with
                            | none => rw [hq183] at h; cases h
                            | some v184 =>
                              rw [hq183, mjBp_some] at h
                              refine pG_call (k2 := 196) (As := [.int 1]) (rest := [.int x7]) rfl (by decide) (f196_truth_ok hq183) ?_
                              rintro r9 M9 ⟨rfl, rfl⟩
                              show pG 280 258 [some (.ref 211), some (.int x1), d2, some (.int x3), d4, d5, d6, some (.int x7), some (.int x8)] [.int v184, .int x7] (mjTo Z) _
                              refine pG_many 4 (pc1 := 196) (L1 := [some (.ref 211), some (.int x1), d2, some (.int x3), d4, d5, (mjK1 d6), some (.int (x7 + v184)), some (.int (x8 + 1))]) (st1 := []) (M1 := mjTo Z) rfl ?_
                              exact f280_factOf_h196_ok n x1 x3 (x7 + v184) (x8 + 1) d2 d4 d5 ((mjK1 d6)) Z v9 h
def f280_factOf_h273 : Nat → Int32 → Int32 → Int32 → Int32 → mjZt → Option Int32
  | 0, _, _, _, _, _ => none
  | n + 1, x3, x4, x7, x8, Z =>
    if mjCmp .ge x8 (Z.1 211 40) = true then
      some x7
    else
      mjBp (f278_isWaived x8 Z) fun v189 =>
      if mjCmp .ne v189 0 = true then
        mjBp (f196_truth 0 Z) fun v193 =>
        f280_factOf_h273 n x3 x4 (x7 + v193) (x8 + 1) Z
      else
        mjBp (f273_kindOf x8 Z) fun v196 =>
        if mjCmp .ne v196 3 = true then
          mjBp (f196_truth 0 Z) fun v200 =>
          f280_factOf_h273 n x3 x4 (x7 + v200) (x8 + 1) Z
        else
          mjBp (f275_otherOf x8 Z) fun v203 =>
          if mjCmp .ne v203 x3 = true then
            mjBp (f196_truth 0 Z) fun v207 =>
            f280_factOf_h273 n x3 x4 (x7 + v207) (x8 + 1) Z
          else
            mjBp (f276_tenthOf x8 Z) fun v210 =>
            mjBp (f195_isIn (Int32.toInt64 v210) (Int32.toInt64 (x4 - 20)) (Int32.toInt64 x4) Z) fun v213 =>
            if mjCmp .eq v213 0 = true then
              mjBp (f196_truth 0 Z) fun v217 =>
              f280_factOf_h273 n x3 x4 (x7 + v217) (x8 + 1) Z
            else
              mjBp (f196_truth 1 Z) fun v220 =>
              f280_factOf_h273 n x3 x4 (x7 + v220) (x8 + 1) Z
set_option maxRecDepth 4000 in
theorem f280_factOf_h273_ok : ∀ (n : Nat) (x3 : Int32) (x4 : Int32) (x7 : Int32) (x8 : Int32) (d1 d2 d5 d6 : Option Value) (Z : mjZt) (v9 : Int32), f280_factOf_h273 n x3 x4 x7 x8 Z = some v9 → pG 280 273 [some (.ref 211), d1, d2, some (.int x3), some (.int x4), d5, d6, some (.int x7), some (.int x8)] [] (mjTo Z) (fun r M1 => r = some (.int v9) ∧ M1 = mjTo Z)
  | 0, x3, x4, x7, x8, d1, d2, d5, d6, Z, v9, h => by rw [f280_factOf_h273] at h; cases h
  | n + 1, x3, x4, x7, x8, d1, d2, d5, d6, Z, v9, h => by
      rw [f280_factOf_h273] at h
      refine pG_many 2 (pc1 := 276) (L1 := [some (.ref 211), d1, d2, some (.int x3), some (.int x4), d5, d6, some (.int x7), some (.int x8)]) (st1 := [.ref 211, .int x8]) (M1 := mjTo Z) rfl ?_
      refine pG_getI (ci := 12) (f := 40) rfl rfl (Or.inl rfl) (by rfl) ?_
      by_cases hc187 : mjCmp .ge x8 (Z.1 211 40) = true
      · rw [if_pos hc187] at h
        refine pG_cmt (t := 352) rfl rfl hc187 ?_
        refine pG_many 1 (pc1 := 354) (L1 := [some (.ref 211), d1, d2, some (.int x3), some (.int x4), d5, d6, some (.int x7), some (.int x8)]) (st1 := [.int x7]) (M1 := mjTo Z) rfl ?_
        simp only [Option.some.injEq] at h
        subst h
        exact pG_ret (r := some (.int x7)) rfl ⟨rfl, rfl⟩
      · rw [if_neg hc187] at h
        refine pG_cmf (t := 352) rfl rfl hc187 ?_
        refine pG_many 3 (pc1 := 287) (L1 := [some (.ref 211), d1, d2, some (.int x3), some (.int x4), d5, d6, some (.int x7), some (.int x8)]) (st1 := [.int x8, .ref 211, .int x7]) (M1 := mjTo Z) rfl ?_
        cases hq188 : f278_isWaived x8 Z with
        | none => rw [hq188] at h; cases h
        | some v189 =>
          rw [hq188, mjBp_some] at h
          refine pG_callV (k2 := 278) (As := [.ref 211, .int x8]) (rest := [.int x7]) rfl rfl rfl rfl rfl (by rfl) (by decide) (f278_isWaived_ok hq188) ?_
          rintro r9 M9 ⟨rfl, rfl⟩
          show pG 280 290 [some (.ref 211), d1, d2, some (.int x3), some (.int x4), d5, d6, some (.int x7), some (.int x8)] [.int v189, .int x7] (mjTo Z) _
          by_cases hc191 : mjCmp .ne v189 0 = true
          · rw [if_pos hc191] at h
            refine pG_ift (t := 339) rfl rfl hc191 ?_
            refine pG_many 1 (pc1 := 340) (L1 := [some (.ref 211), d1, d2, some (.int x3), some (.int x4), d5, d6, some (.int x7), some (.int x8)]) (st1 := [.int 0, .int x7]) (M1 := mjTo Z) rfl ?_
            cases hq192 : f196_truth 0 Z with
            | none => rw [hq192] at h; cases h
            | some v193 =>
              rw [hq192, mjBp_some] at h
              refine pG_call (k2 := 196) (As := [.int 0]) (rest := [.int x7]) rfl (by decide) (f196_truth_ok hq192) ?_
              rintro r9 M9 ⟨rfl, rfl⟩
              show pG 280 343 [some (.ref 211), d1, d2, some (.int x3), some (.int x4), d5, d6, some (.int x7), some (.int x8)] [.int v193, .int x7] (mjTo Z) _
              refine pG_many 4 (pc1 := 273) (L1 := [some (.ref 211), d1, d2, some (.int x3), some (.int x4), d5, (mjK1 d6), some (.int (x7 + v193)), some (.int (x8 + 1))]) (st1 := []) (M1 := mjTo Z) rfl ?_
              exact f280_factOf_h273_ok n x3 x4 (x7 + v193) (x8 + 1) d1 d2 d5 ((mjK1 d6)) Z v9 h
          · rw [if_neg hc191] at h
            refine pG_iff (t := 339) rfl rfl hc191 ?_
            refine pG_many 2 (pc1 := 296) (L1 := [some (.ref 211), d1, d2, some (.int x3), some (.int x4), d5, d6, some (.int x7), some (.int x8)]) (st1 := [.int x8, .ref 211, .int x7]) (M1 := mjTo Z) rfl ?_
            cases hq195 : f273_kindOf x8 Z with
            | none => rw [hq195] at h; cases h
            | some v196 =>
              rw [hq195, mjBp_some] at h
              refine pG_callV (k2 := 273) (As := [.ref 211, .int x8]) (rest := [.int x7]) rfl rfl rfl rfl rfl (by rfl) (by decide) (f273_kindOf_ok hq195) ?_
              rintro r9 M9 ⟨rfl, rfl⟩
              show pG 280 299 [some (.ref 211), d1, d2, some (.int x3), some (.int x4), d5, d6, some (.int x7), some (.int x8)] [.int v196, .int x7] (mjTo Z) _
              refine pG_many 1 (pc1 := 300) (L1 := [some (.ref 211), d1, d2, some (.int x3), some (.int x4), d5, d6, some (.int x7), some (.int x8)]) (st1 := [.int 3, .int v196, .int x7]) (M1 := mjTo Z) rfl ?_
              by_cases hc198 : mjCmp .ne v196 3 = true
              · rw [if_pos hc198] at h
                refine pG_cmt (t := 339) rfl rfl hc198 ?_
                refine pG_many 1 (pc1 := 340) (L1 := [some (.ref 211), d1, d2, some (.int x3), some (.int x4), d5, d6, some (.int x7), some (.int x8)]) (st1 := [.int 0, .int x7]) (M1 := mjTo Z) rfl ?_
                cases hq199 : f196_truth 0 Z with
                | none => rw [hq199] at h; cases h
                | some v200 =>
                  rw [hq199, mjBp_some] at h
                  refine pG_call (k2 := 196) (As := [.int 0]) (rest := [.int x7]) rfl (by decide) (f196_truth_ok hq199) ?_
                  rintro r9 M9 ⟨rfl, rfl⟩
                  show pG 280 343 [some (.ref 211), d1, d2, some (.int x3), some (.int x4), d5, d6, some (.int x7), some (.int x8)] [.int v200, .int x7] (mjTo Z) _
                  refine pG_many 4 (pc1 := 273) (L1 := [some (.ref 211), d1, d2, some (.int x3), some (.int x4), d5, (mjK1 d6), some (.int (x7 + v200)), some (.int (x8 + 1))]) (st1 := []) (M1 := mjTo Z) rfl ?_
                  exact f280_factOf_h273_ok n x3 x4 (x7 + v200) (x8 + 1) d1 d2 d5 ((mjK1 d6)) Z v9 h
              · rw [if_neg hc198] at h
                refine pG_cmf (t := 339) rfl rfl hc198 ?_
                refine pG_many 2 (pc1 := 306) (L1 := [some (.ref 211), d1, d2, some (.int x3), some (.int x4), d5, d6, some (.int x7), some (.int x8)]) (st1 := [.int x8, .ref 211, .int x7]) (M1 := mjTo Z) rfl ?_
                cases hq202 : f275_otherOf x8 Z with
                | none => rw [hq202] at h; cases h
                | some v203 =>
                  rw [hq202, mjBp_some] at h
                  refine pG_callV (k2 := 275) (As := [.ref 211, .int x8]) (rest := [.int x7]) rfl rfl rfl rfl rfl (by rfl) (by decide) (f275_otherOf_ok hq202) ?_
                  rintro r9 M9 ⟨rfl, rfl⟩
                  show pG 280 309 [some (.ref 211), d1, d2, some (.int x3), some (.int x4), d5, d6, some (.int x7), some (.int x8)] [.int v203, .int x7] (mjTo Z) _
                  refine pG_many 1 (pc1 := 310) (L1 := [some (.ref 211), d1, d2, some (.int x3), some (.int x4), d5, d6, some (.int x7), some (.int x8)]) (st1 := [.int x3, .int v203, .int x7]) (M1 := mjTo Z) rfl ?_
                  by_cases hc205 : mjCmp .ne v203 x3 = true
                  · rw [if_pos hc205] at h
                    refine pG_cmt (t := 339) rfl rfl hc205 ?_
                    refine pG_many 1 (pc1 := 340) (L1 := [some (.ref 211), d1, d2, some (.int x3), some (.int x4), d5, d6, some (.int x7), some (.int x8)]) (st1 := [.int 0, .int x7]) (M1 := mjTo Z) rfl ?_
                    cases hq206 : f196_truth 0 Z with
                    | none => rw [hq206] at h; cases h
                    | some v207 =>
                      rw [hq206, mjBp_some] at h
                      refine pG_call (k2 := 196) (As := [.int 0]) (rest := [.int x7]) rfl (by decide) (f196_truth_ok hq206) ?_
                      rintro r9 M9 ⟨rfl, rfl⟩
                      show pG 280 343 [some (.ref 211), d1, d2, some (.int x3), some (.int x4), d5, d6, some (.int x7), some (.int x8)] [.int v207, .int x7] (mjTo Z) _
                      refine pG_many 4 (pc1 := 273) (L1 := [some (.ref 211), d1, d2, some (.int x3), some (.int x4), d5, (mjK1 d6), some (.int (x7 + v207)), some (.int (x8 + 1))]) (st1 := []) (M1 := mjTo Z) rfl ?_
                      exact f280_factOf_h273_ok n x3 x4 (x7 + v207) (x8 + 1) d1 d2 d5 ((mjK1 d6)) Z v9 h
                  · rw [if_neg hc205] at h
                    refine pG_cmf (t := 339) rfl rfl hc205 ?_
                    refine pG_many 2 (pc1 := 316) (L1 := [some (.ref 211), d1, d2, some (.int x3), some (.int x4), d5, d6, some (.int x7), some (.int x8)]) (st1 := [.int x8, .ref 211, .int x7]) (M1 := mjTo Z) rfl ?_
                    cases hq209 : f276_tenthOf x8 Z with
                    | none => rw [hq209] at h; cases h
                    | some v210 =>
                      rw [hq209, mjBp_some] at h
                      refine pG_callV (k2 := 276) (As := [.ref 211, .int x8]) (rest := [.int x7]) rfl rfl rfl rfl rfl (by rfl) (by decide) (f276_tenthOf_ok hq209) ?_
                      rintro r9 M9 ⟨rfl, rfl⟩
                      show pG 280 319 [some (.ref 211), d1, d2, some (.int x3), some (.int x4), d5, d6, some (.int x7), some (.int x8)] [.int v210, .int x7] (mjTo Z) _
                      refine pG_many 7 (pc1 := 329) (L1 := [some (.ref 211), d1, d2, some (.int x3), some (.int x4), d5, d6, some (.int x7), some (.int x8)]) (st1 := [.long (Int32.toInt64 x4), .long (Int32.toInt64 (x4 - 20)), .long (Int32.toInt64 v210), .int x7]) (M1 := mjTo Z) rfl ?_
                      cases hq212 : f195_isIn (Int32.toInt64 v210) (Int32.toInt64 (x4 - 20)) (Int32.toInt64 x4) Z with
                      | none => rw [hq212] at h; cases h
                      | some v213 =>
                        rw [hq212, mjBp_some] at h
                        refine pG_call (k2 := 195) (As := [.long (Int32.toInt64 v210), .long (Int32.toInt64 (x4 - 20)), .long (Int32.toInt64 x4)]) (rest := [.int x7]) rfl (by decide) (f195_isIn_ok hq212) ?_
                        rintro r9 M9 ⟨rfl, rfl⟩
                        show pG 280 332 [some (.ref 211), d1, d2, some (.int x3), some (.int x4), d5, d6, some (.int x7), some (.int x8)] [.int v213, .int x7] (mjTo Z) _
                        by_cases hc215 : mjCmp .eq v213 0 = true
                        · rw [if_pos hc215] at h
                          refine pG_ift (t := 339) rfl rfl hc215 ?_
                          refine pG_many 1 (pc1 := 340) (L1 := [some (.ref 211), d1, d2, some (.int x3), some (.int x4), d5, d6, some (.int x7), some (.int x8)]) (st1 := [.int 0, .int x7]) (M1 := mjTo Z) rfl ?_
                          cases hq216 : f196_truth 0 Z with
                          | none => rw [hq216] at h; cases h
                          | some v217 =>
                            rw [hq216, mjBp_some] at h
                            refine pG_call (k2 := 196) (As := [.int 0]) (rest := [.int x7]) rfl (by decide) (f196_truth_ok hq216) ?_
                            rintro r9 M9 ⟨rfl, rfl⟩
                            show pG 280 343 [some (.ref 211), d1, d2, some (.int x3), some (.int x4), d5, d6, some (.int x7), some (.int x8)] [.int v217, .int x7] (mjTo Z) _
                            refine pG_many 4 (pc1 := 273) (L1 := [some (.ref 211), d1, d2, some (.int x3), some (.int x4), d5, (mjK1 d6), some (.int (x7 + v217)), some (.int (x8 + 1))]) (st1 := []) (M1 := mjTo Z) rfl ?_
                            exact f280_factOf_h273_ok n x3 x4 (x7 + v217) (x8 + 1) d1 d2 d5 ((mjK1 d6)) Z v9 h
                        · rw [if_neg hc215] at h
                          refine pG_iff (t := 339) rfl rfl hc215 ?_
                          refine pG_many 2 (pc1 := 340) (L1 := [some (.ref 211), d1, d2, some (.int x3), some (.int x4), d5, d6, some (.int x7), some (.int x8)]) (st1 := [.int 1, .int x7]) (M1 := mjTo Z) rfl ?_
                          cases hq219 : f196_truth 1 Z with
                          | none => rw [hq219] at h; cases h
                          | some v220 =>
                            rw [hq219, mjBp_some] at h
                            refine pG_call (k2 := 196) (As := [.int 1]) (rest := [.int x7]) rfl (by decide) (f196_truth_ok hq219) ?_
                            rintro r9 M9 ⟨rfl, rfl⟩
                            show pG 280 343 [some (.ref 211), d1, d2, some (.int x3), some (.int x4), d5, d6, some (.int x7), some (.int x8)] [.int v220, .int x7] (mjTo Z) _
                            refine pG_many 4 (pc1 := 273) (L1 := [some (.ref 211), d1, d2, some (.int x3), some (.int x4), d5, (mjK1 d6), some (.int (x7 + v220)), some (.int (x8 + 1))]) (st1 := []) (M1 := mjTo Z) rfl ?_
                            exact f280_factOf_h273_ok n x3 x4 (x7 + v220) (x8 + 1) d1 d2 d5 ((mjK1 d6)) Z v9 h
def f280_factOf (p0 : Int32) (p1 : Int32) (Z : mjZt) : Option Int32 :=
  mjBp (f274_teamOf p0 Z) fun v102 =>
  mjBp (f276_tenthOf p0 Z) fun v105 =>
  mjBp (f275_otherOf p0 Z) fun v108 =>
  mjBp (f249_placeOf v102 v105 Z) fun v111 =>
  if (p1).toInt < 0 ∨ 9 < (p1).toInt then
    f280_factOf_h358 mjF v105 v111 0 0 Z
  else if ((p1).toInt - 0).toNat = 0 then
    some v105
  else if ((p1).toInt - 0).toNat = 1 then
    mjBp (f277_sizeOf p0 Z) fun v128 =>
    some v128
  else if ((p1).toInt - 0).toNat = 2 then
    mjBp (f248_legAt v102 v105 Z) fun v132 =>
    some (v132 + 1)
  else if ((p1).toInt - 0).toNat = 3 then
    some (v111 / 10)
  else if ((p1).toInt - 0).toNat = 4 then
    if mjIn v102 6 = true then
    some (Z.1 230 (mjIx v102))
    else none
  else if ((p1).toInt - 0).toNat = 5 then
    if mjCmp .ne v108 ((-1)) = true then
      if mjIn v108 6 = true then
      some (Z.1 230 (mjIx v108))
      else none
    else
      some 0
  else if ((p1).toInt - 0).toNat = 6 then
    if mjCmp .ne v108 ((-1)) = true then
      mjBp (f249_placeOf v108 v105 Z) fun v143 =>
      some (v111 - v143)
    else
      some 0
  else if ((p1).toInt - 0).toNat = 7 then
    if mjCmp .ne (Z.1 229 4) 0 = true then
      some (((Z.1 229 1) + (Z.1 229 4)) - (v111 / 10))
    else
      some 0
  else if ((p1).toInt - 0).toNat = 8 then
    f280_factOf_h196 mjF p0 v102 0 0 Z
  else if ((p1).toInt - 0).toNat = 9 then
    f280_factOf_h273 mjF v102 v105 0 0 Z
  else none
set_option maxRecDepth 4000 in
theorem f280_factOf_ok {p0 : Int32} {p1 : Int32} {Z : mjZt} {v9 : Int32} (h : f280_factOf p0 p1 Z = some v9) : pG 280 0 (mjEnt [.ref 211, .int p0, .int p1] (mjML 280)) [] (mjTo Z) (fun r M1 => r = some (.int v9) ∧ M1 = mjTo Z) := by
  unfold f280_factOf at h
  show pG 280 0 [some (.ref 211), some (.int p0), some (.int p1), none, none, none, none, none, none] [] (mjTo Z) _
  refine pG_many 2 (pc1 := 2) (L1 := [some (.ref 211), some (.int p0), some (.int p1), none, none, none, none, none, none]) (st1 := [.int p0, .ref 211]) (M1 := mjTo Z) rfl ?_
  cases hq101 : f274_teamOf p0 Z with
  | none => rw [hq101] at h; cases h
  | some v102 =>
    rw [hq101, mjBp_some] at h
    refine pG_callV (k2 := 274) (As := [.ref 211, .int p0]) (rest := []) rfl rfl rfl rfl rfl (by rfl) (by decide) (f274_teamOf_ok hq101) ?_
    rintro r9 M9 ⟨rfl, rfl⟩
    show pG 280 5 [some (.ref 211), some (.int p0), some (.int p1), none, none, none, none, none, none] [.int v102] (mjTo Z) _
    refine pG_many 3 (pc1 := 8) (L1 := [some (.ref 211), some (.int p0), some (.int p1), some (.int v102), none, none, none, none, none]) (st1 := [.int p0, .ref 211]) (M1 := mjTo Z) rfl ?_
    cases hq104 : f276_tenthOf p0 Z with
    | none => rw [hq104] at h; cases h
    | some v105 =>
      rw [hq104, mjBp_some] at h
      refine pG_callV (k2 := 276) (As := [.ref 211, .int p0]) (rest := []) rfl rfl rfl rfl rfl (by rfl) (by decide) (f276_tenthOf_ok hq104) ?_
      rintro r9 M9 ⟨rfl, rfl⟩
      show pG 280 11 [some (.ref 211), some (.int p0), some (.int p1), some (.int v102), none, none, none, none, none] [.int v105] (mjTo Z) _
      refine pG_many 3 (pc1 := 15) (L1 := [some (.ref 211), some (.int p0), some (.int p1), some (.int v102), some (.int v105), none, none, none, none]) (st1 := [.int p0, .ref 211]) (M1 := mjTo Z) rfl ?_
      cases hq107 : f275_otherOf p0 Z with
      | none => rw [hq107] at h; cases h
      | some v108 =>
        rw [hq107, mjBp_some] at h
        refine pG_callV (k2 := 275) (As := [.ref 211, .int p0]) (rest := []) rfl rfl rfl rfl rfl (by rfl) (by decide) (f275_otherOf_ok hq107) ?_
        rintro r9 M9 ⟨rfl, rfl⟩
        show pG 280 18 [some (.ref 211), some (.int p0), some (.int p1), some (.int v102), some (.int v105), none, none, none, none] [.int v108] (mjTo Z) _
        refine pG_many 4 (pc1 := 24) (L1 := [some (.ref 211), some (.int p0), some (.int p1), some (.int v102), some (.int v105), some (.int v108), none, none, none]) (st1 := [.int v105, .int v102, .ref 211]) (M1 := mjTo Z) rfl ?_
        cases hq110 : f249_placeOf v102 v105 Z with
        | none => rw [hq110] at h; cases h
        | some v111 =>
          rw [hq110, mjBp_some] at h
          refine pG_callV (k2 := 249) (As := [.ref 211, .int v102, .int v105]) (rest := []) rfl rfl rfl rfl rfl (by rfl) (by decide) (f249_placeOf_ok hq110) ?_
          rintro r9 M9 ⟨rfl, rfl⟩
          show pG 280 27 [some (.ref 211), some (.int p0), some (.int p1), some (.int v102), some (.int v105), some (.int v108), none, none, none] [.int v111] (mjTo Z) _
          refine pG_many 4 (pc1 := 33) (L1 := [some (.ref 211), some (.int p0), some (.int p1), some (.int v102), some (.int v105), some (.int v108), some (.int v111), some (.int 0), none]) (st1 := [.int p1]) (M1 := mjTo Z) rfl ?_
          by_cases hs113 : (p1).toInt < 0 ∨ 9 < (p1).toInt
          · rw [if_pos hs113] at h
            refine pG_tso (t := 355) rfl hs113 rfl ?_
            refine pG_many 2 (pc1 := 358) (L1 := [some (.ref 211), some (.int p0), some (.int p1), some (.int v102), some (.int v105), some (.int v108), some (.int v111), some (.int 0), some (.int 0)]) (st1 := []) (M1 := mjTo Z) rfl ?_
            exact f280_factOf_h358_ok mjF v105 v111 0 0 (some (.int p0)) (some (.int p1)) (some (.int v102)) (some (.int v108)) Z v9 h
          rw [if_neg hs113] at h
          by_cases hs125 : ((p1).toInt - 0).toNat = 0
          · rw [if_pos hs125] at h
            refine pG_tsi (t := 88) (j := 0) (o := 55) rfl hs113 hs125 rfl rfl ?_
            refine pG_many 1 (pc1 := 90) (L1 := [some (.ref 211), some (.int p0), some (.int p1), some (.int v102), some (.int v105), some (.int v108), some (.int v111), some (.int 0), none]) (st1 := [.int v105]) (M1 := mjTo Z) rfl ?_
            simp only [Option.some.injEq] at h
            subst h
            exact pG_ret (r := some (.int v105)) rfl ⟨rfl, rfl⟩
          rw [if_neg hs125] at h
          by_cases hs126 : ((p1).toInt - 0).toNat = 1
          · rw [if_pos hs126] at h
            refine pG_tsi (t := 91) (j := 1) (o := 58) rfl hs113 hs126 rfl rfl ?_
            refine pG_many 2 (pc1 := 93) (L1 := [some (.ref 211), some (.int p0), some (.int p1), some (.int v102), some (.int v105), some (.int v108), some (.int v111), some (.int 0), none]) (st1 := [.int p0, .ref 211]) (M1 := mjTo Z) rfl ?_
            cases hq127 : f277_sizeOf p0 Z with
            | none => rw [hq127] at h; cases h
            | some v128 =>
              rw [hq127, mjBp_some] at h
              refine pG_callV (k2 := 277) (As := [.ref 211, .int p0]) (rest := []) rfl rfl rfl rfl rfl (by rfl) (by decide) (f277_sizeOf_ok hq127) ?_
              rintro r9 M9 ⟨rfl, rfl⟩
              show pG 280 96 [some (.ref 211), some (.int p0), some (.int p1), some (.int v102), some (.int v105), some (.int v108), some (.int v111), some (.int 0), none] [.int v128] (mjTo Z) _
              simp only [Option.some.injEq] at h
              subst h
              exact pG_ret (r := some (.int v128)) rfl ⟨rfl, rfl⟩
          rw [if_neg hs126] at h
          by_cases hs130 : ((p1).toInt - 0).toNat = 2
          · rw [if_pos hs130] at h
            refine pG_tsi (t := 97) (j := 2) (o := 64) rfl hs113 hs130 rfl rfl ?_
            refine pG_many 3 (pc1 := 101) (L1 := [some (.ref 211), some (.int p0), some (.int p1), some (.int v102), some (.int v105), some (.int v108), some (.int v111), some (.int 0), none]) (st1 := [.int v105, .int v102, .ref 211]) (M1 := mjTo Z) rfl ?_
            cases hq131 : f248_legAt v102 v105 Z with
            | none => rw [hq131] at h; cases h
            | some v132 =>
              rw [hq131, mjBp_some] at h
              refine pG_callV (k2 := 248) (As := [.ref 211, .int v102, .int v105]) (rest := []) rfl rfl rfl rfl rfl (by rfl) (by decide) (f248_legAt_ok hq131) ?_
              rintro r9 M9 ⟨rfl, rfl⟩
              show pG 280 104 [some (.ref 211), some (.int p0), some (.int p1), some (.int v102), some (.int v105), some (.int v108), some (.int v111), some (.int 0), none] [.int v132] (mjTo Z) _
              refine pG_many 2 (pc1 := 106) (L1 := [some (.ref 211), some (.int p0), some (.int p1), some (.int v102), some (.int v105), some (.int v108), some (.int v111), some (.int 0), none]) (st1 := [.int (v132 + 1)]) (M1 := mjTo Z) rfl ?_
              simp only [Option.some.injEq] at h
              subst h
              exact pG_ret (r := some (.int (v132 + 1))) rfl ⟨rfl, rfl⟩
          rw [if_neg hs130] at h
          by_cases hs134 : ((p1).toInt - 0).toNat = 3
          · rw [if_pos hs134] at h
            refine pG_tsi (t := 107) (j := 3) (o := 74) rfl hs113 hs134 rfl rfl ?_
            refine pG_many 2 (pc1 := 111) (L1 := [some (.ref 211), some (.int p0), some (.int p1), some (.int v102), some (.int v105), some (.int v108), some (.int v111), some (.int 0), none]) (st1 := [.int 10, .int v111]) (M1 := mjTo Z) rfl ?_
            refine pG_div rfl (by decide) ?_
            simp only [Option.some.injEq] at h
            subst h
            exact pG_ret (r := some (.int (v111 / 10))) rfl ⟨rfl, rfl⟩
          rw [if_neg hs134] at h
          by_cases hs135 : ((p1).toInt - 0).toNat = 4
          · rw [if_pos hs135] at h
            refine pG_tsi (t := 113) (j := 4) (o := 80) rfl hs113 hs135 rfl rfl ?_
            refine pG_many 1 (pc1 := 114) (L1 := [some (.ref 211), some (.int p0), some (.int p1), some (.int v102), some (.int v105), some (.int v108), some (.int v111), some (.int 0), none]) (st1 := [.ref 211]) (M1 := mjTo Z) rfl ?_
            refine pG_getR (ci := 12) (f := 45) (b := 230) rfl rfl rfl (by rfl) rfl ?_
            refine pG_many 1 (pc1 := 118) (L1 := [some (.ref 211), some (.int p0), some (.int p1), some (.int v102), some (.int v105), some (.int v108), some (.int v111), some (.int 0), none]) (st1 := [.int v102, .ref 230]) (M1 := mjTo Z) rfl ?_
            have hk136 : mjIn v102 6 = true := by
              by_cases q9 : mjIn v102 6 = true
              · exact q9
              · rw [if_neg q9] at h; cases h
            rw [if_pos hk136] at h
            refine pG_ial rfl (by rfl) hk136 ?_
            simp only [Option.some.injEq] at h
            subst h
            exact pG_ret (r := some (.int (Z.1 230 (mjIx v102)))) rfl ⟨rfl, rfl⟩
          rw [if_neg hs135] at h
          by_cases hs137 : ((p1).toInt - 0).toNat = 5
          · rw [if_pos hs137] at h
            refine pG_tsi (t := 120) (j := 5) (o := 87) rfl hs113 hs137 rfl rfl ?_
            refine pG_many 2 (pc1 := 123) (L1 := [some (.ref 211), some (.int p0), some (.int p1), some (.int v102), some (.int v105), some (.int v108), some (.int v111), some (.int 0), none]) (st1 := [.int ((-1)), .int v108]) (M1 := mjTo Z) rfl ?_
            by_cases hc138 : mjCmp .ne v108 ((-1)) = true
            · rw [if_pos hc138] at h
              refine pG_cmt (t := 130) rfl rfl hc138 ?_
              refine pG_many 1 (pc1 := 131) (L1 := [some (.ref 211), some (.int p0), some (.int p1), some (.int v102), some (.int v105), some (.int v108), some (.int v111), some (.int 0), none]) (st1 := [.ref 211]) (M1 := mjTo Z) rfl ?_
              refine pG_getR (ci := 12) (f := 45) (b := 230) rfl rfl rfl (by rfl) rfl ?_
              refine pG_many 1 (pc1 := 136) (L1 := [some (.ref 211), some (.int p0), some (.int p1), some (.int v102), some (.int v105), some (.int v108), some (.int v111), some (.int 0), none]) (st1 := [.int v108, .ref 230]) (M1 := mjTo Z) rfl ?_
              have hk139 : mjIn v108 6 = true := by
                by_cases q9 : mjIn v108 6 = true
                · exact q9
                · rw [if_neg q9] at h; cases h
              rw [if_pos hk139] at h
              refine pG_ial rfl (by rfl) hk139 ?_
              simp only [Option.some.injEq] at h
              subst h
              exact pG_ret (r := some (.int (Z.1 230 (mjIx v108)))) rfl ⟨rfl, rfl⟩
            · rw [if_neg hc138] at h
              refine pG_cmf (t := 130) rfl rfl hc138 ?_
              refine pG_many 2 (pc1 := 137) (L1 := [some (.ref 211), some (.int p0), some (.int p1), some (.int v102), some (.int v105), some (.int v108), some (.int v111), some (.int 0), none]) (st1 := [.int 0]) (M1 := mjTo Z) rfl ?_
              simp only [Option.some.injEq] at h
              subst h
              exact pG_ret (r := some (.int 0)) rfl ⟨rfl, rfl⟩
          rw [if_neg hs137] at h
          by_cases hs140 : ((p1).toInt - 0).toNat = 6
          · rw [if_pos hs140] at h
            refine pG_tsi (t := 138) (j := 6) (o := 105) rfl hs113 hs140 rfl rfl ?_
            refine pG_many 2 (pc1 := 141) (L1 := [some (.ref 211), some (.int p0), some (.int p1), some (.int v102), some (.int v105), some (.int v108), some (.int v111), some (.int 0), none]) (st1 := [.int ((-1)), .int v108]) (M1 := mjTo Z) rfl ?_
            by_cases hc141 : mjCmp .ne v108 ((-1)) = true
            · rw [if_pos hc141] at h
              refine pG_cmt (t := 148) rfl rfl hc141 ?_
              refine pG_many 4 (pc1 := 155) (L1 := [some (.ref 211), some (.int p0), some (.int p1), some (.int v102), some (.int v105), some (.int v108), some (.int v111), some (.int 0), none]) (st1 := [.int v105, .int v108, .ref 211, .int v111]) (M1 := mjTo Z) rfl ?_
              cases hq142 : f249_placeOf v108 v105 Z with
              | none => rw [hq142] at h; cases h
              | some v143 =>
                rw [hq142, mjBp_some] at h
                refine pG_callV (k2 := 249) (As := [.ref 211, .int v108, .int v105]) (rest := [.int v111]) rfl rfl rfl rfl rfl (by rfl) (by decide) (f249_placeOf_ok hq142) ?_
                rintro r9 M9 ⟨rfl, rfl⟩
                show pG 280 158 [some (.ref 211), some (.int p0), some (.int p1), some (.int v102), some (.int v105), some (.int v108), some (.int v111), some (.int 0), none] [.int v143, .int v111] (mjTo Z) _
                refine pG_many 1 (pc1 := 159) (L1 := [some (.ref 211), some (.int p0), some (.int p1), some (.int v102), some (.int v105), some (.int v108), some (.int v111), some (.int 0), none]) (st1 := [.int (v111 - v143)]) (M1 := mjTo Z) rfl ?_
                simp only [Option.some.injEq] at h
                subst h
                exact pG_ret (r := some (.int (v111 - v143))) rfl ⟨rfl, rfl⟩
            · rw [if_neg hc141] at h
              refine pG_cmf (t := 148) rfl rfl hc141 ?_
              refine pG_many 2 (pc1 := 159) (L1 := [some (.ref 211), some (.int p0), some (.int p1), some (.int v102), some (.int v105), some (.int v108), some (.int v111), some (.int 0), none]) (st1 := [.int 0]) (M1 := mjTo Z) rfl ?_
              simp only [Option.some.injEq] at h
              subst h
              exact pG_ret (r := some (.int 0)) rfl ⟨rfl, rfl⟩
          rw [if_neg hs140] at h
          by_cases hs145 : ((p1).toInt - 0).toNat = 7
          · rw [if_pos hs145] at h
            refine pG_tsi (t := 160) (j := 7) (o := 127) rfl hs113 hs145 rfl rfl ?_
            refine pG_many 1 (pc1 := 161) (L1 := [some (.ref 211), some (.int p0), some (.int p1), some (.int v102), some (.int v105), some (.int v108), some (.int v111), some (.int 0), none]) (st1 := [.ref 211]) (M1 := mjTo Z) rfl ?_
            refine pG_getR (ci := 12) (f := 44) (b := 229) rfl rfl rfl (by rfl) rfl ?_
            refine pG_many 1 (pc1 := 165) (L1 := [some (.ref 211), some (.int p0), some (.int p1), some (.int v102), some (.int v105), some (.int v108), some (.int v111), some (.int 0), none]) (st1 := [.int 4, .ref 229]) (M1 := mjTo Z) rfl ?_
            refine pG_ial rfl (by rfl) (by decide) ?_
            by_cases hc146 : mjCmp .ne (Z.1 229 4) 0 = true
            · rw [if_pos hc146] at h
              refine pG_ift (t := 173) rfl rfl hc146 ?_
              refine pG_many 1 (pc1 := 174) (L1 := [some (.ref 211), some (.int p0), some (.int p1), some (.int v102), some (.int v105), some (.int v108), some (.int v111), some (.int 0), none]) (st1 := [.ref 211]) (M1 := mjTo Z) rfl ?_
              refine pG_getR (ci := 12) (f := 44) (b := 229) rfl rfl rfl (by rfl) rfl ?_
              refine pG_many 1 (pc1 := 178) (L1 := [some (.ref 211), some (.int p0), some (.int p1), some (.int v102), some (.int v105), some (.int v108), some (.int v111), some (.int 0), none]) (st1 := [.int 1, .ref 229]) (M1 := mjTo Z) rfl ?_
              refine pG_ial rfl (by rfl) (by decide) ?_
              refine pG_many 1 (pc1 := 180) (L1 := [some (.ref 211), some (.int p0), some (.int p1), some (.int v102), some (.int v105), some (.int v108), some (.int v111), some (.int 0), none]) (st1 := [.ref 211, .int (Z.1 229 1)]) (M1 := mjTo Z) rfl ?_
              refine pG_getR (ci := 12) (f := 44) (b := 229) rfl rfl rfl (by rfl) rfl ?_
              refine pG_many 1 (pc1 := 184) (L1 := [some (.ref 211), some (.int p0), some (.int p1), some (.int v102), some (.int v105), some (.int v108), some (.int v111), some (.int 0), none]) (st1 := [.int 4, .ref 229, .int (Z.1 229 1)]) (M1 := mjTo Z) rfl ?_
              refine pG_ial rfl (by rfl) (by decide) ?_
              refine pG_many 3 (pc1 := 190) (L1 := [some (.ref 211), some (.int p0), some (.int p1), some (.int v102), some (.int v105), some (.int v108), some (.int v111), some (.int 0), none]) (st1 := [.int 10, .int v111, .int ((Z.1 229 1) + (Z.1 229 4))]) (M1 := mjTo Z) rfl ?_
              refine pG_div rfl (by decide) ?_
              refine pG_many 1 (pc1 := 192) (L1 := [some (.ref 211), some (.int p0), some (.int p1), some (.int v102), some (.int v105), some (.int v108), some (.int v111), some (.int 0), none]) (st1 := [.int (((Z.1 229 1) + (Z.1 229 4)) - (v111 / 10))]) (M1 := mjTo Z) rfl ?_
              simp only [Option.some.injEq] at h
              subst h
              exact pG_ret (r := some (.int (((Z.1 229 1) + (Z.1 229 4)) - (v111 / 10)))) rfl ⟨rfl, rfl⟩
            · rw [if_neg hc146] at h
              refine pG_iff (t := 173) rfl rfl hc146 ?_
              refine pG_many 2 (pc1 := 192) (L1 := [some (.ref 211), some (.int p0), some (.int p1), some (.int v102), some (.int v105), some (.int v108), some (.int v111), some (.int 0), none]) (st1 := [.int 0]) (M1 := mjTo Z) rfl ?_
              simp only [Option.some.injEq] at h
              subst h
              exact pG_ret (r := some (.int 0)) rfl ⟨rfl, rfl⟩
          rw [if_neg hs145] at h
          by_cases hs147 : ((p1).toInt - 0).toNat = 8
          · rw [if_pos hs147] at h
            refine pG_tsi (t := 193) (j := 8) (o := 160) rfl hs113 hs147 rfl rfl ?_
            refine pG_many 2 (pc1 := 196) (L1 := [some (.ref 211), some (.int p0), some (.int p1), some (.int v102), some (.int v105), some (.int v108), some (.int v111), some (.int 0), some (.int 0)]) (st1 := []) (M1 := mjTo Z) rfl ?_
            exact f280_factOf_h196_ok mjF p0 v102 0 0 (some (.int p1)) (some (.int v105)) (some (.int v108)) (some (.int v111)) Z v9 h
          rw [if_neg hs147] at h
          by_cases hs186 : ((p1).toInt - 0).toNat = 9
          · rw [if_pos hs186] at h
            refine pG_tsi (t := 270) (j := 9) (o := 237) rfl hs113 hs186 rfl rfl ?_
            refine pG_many 2 (pc1 := 273) (L1 := [some (.ref 211), some (.int p0), some (.int p1), some (.int v102), some (.int v105), some (.int v108), some (.int v111), some (.int 0), some (.int 0)]) (st1 := []) (M1 := mjTo Z) rfl ?_
            exact f280_factOf_h273_ok mjF v102 v105 0 0 (some (.int p0)) (some (.int p1)) (some (.int v108)) (some (.int v111)) Z v9 h
          rw [if_neg hs186] at h
          cases h
def f281_act (p0 : Int32) (p1 : Int32) (Z : mjZt) : Option Int32 :=
  mjBp (f270_isAct p0 Z) fun v102 =>
  if mjCmp .eq v102 0 = true then
    some ((-2000000))
  else
    mjBp (f195_isIn (Int32.toInt64 p1) 0 5 Z) fun v106 =>
    if mjCmp .ne v106 0 = true then
      if (p1).toInt < 0 ∨ 4 < (p1).toInt then
        mjBp (f278_isWaived p0 Z) fun v111 =>
        mjBp (f196_truth v111 Z) fun v114 =>
        some v114
      else if ((p1).toInt - 0).toNat = 0 then
        mjBp (f273_kindOf p0 Z) fun v118 =>
        some v118
      else if ((p1).toInt - 0).toNat = 1 then
        mjBp (f274_teamOf p0 Z) fun v122 =>
        some v122
      else if ((p1).toInt - 0).toNat = 2 then
        mjBp (f275_otherOf p0 Z) fun v126 =>
        some v126
      else if ((p1).toInt - 0).toNat = 3 then
        mjBp (f276_tenthOf p0 Z) fun v130 =>
        some v130
      else if ((p1).toInt - 0).toNat = 4 then
        mjBp (f277_sizeOf p0 Z) fun v134 =>
        some v134
      else none
    else
      some ((-2000000))
set_option maxRecDepth 4000 in
theorem f281_act_ok {p0 : Int32} {p1 : Int32} {Z : mjZt} {v9 : Int32} (h : f281_act p0 p1 Z = some v9) : pG 281 0 (mjEnt [.ref 211, .int p0, .int p1] (mjML 281)) [] (mjTo Z) (fun r M1 => r = some (.int v9) ∧ M1 = mjTo Z) := by
  unfold f281_act at h
  show pG 281 0 [some (.ref 211), some (.int p0), some (.int p1)] [] (mjTo Z) _
  refine pG_many 2 (pc1 := 2) (L1 := [some (.ref 211), some (.int p0), some (.int p1)]) (st1 := [.int p0, .ref 211]) (M1 := mjTo Z) rfl ?_
  cases hq101 : f270_isAct p0 Z with
  | none => rw [hq101] at h; cases h
  | some v102 =>
    rw [hq101, mjBp_some] at h
    refine pG_callV (k2 := 270) (As := [.ref 211, .int p0]) (rest := []) rfl rfl rfl rfl rfl (by rfl) (by decide) (f270_isAct_ok hq101) ?_
    rintro r9 M9 ⟨rfl, rfl⟩
    show pG 281 5 [some (.ref 211), some (.int p0), some (.int p1)] [.int v102] (mjTo Z) _
    by_cases hc104 : mjCmp .eq v102 0 = true
    · rw [if_pos hc104] at h
      refine pG_ift (t := 20) rfl rfl hc104 ?_
      refine pG_many 1 (pc1 := 23) (L1 := [some (.ref 211), some (.int p0), some (.int p1)]) (st1 := [.int ((-2000000))]) (M1 := mjTo Z) rfl ?_
      simp only [Option.some.injEq] at h
      subst h
      exact pG_ret (r := some (.int ((-2000000)))) rfl ⟨rfl, rfl⟩
    · rw [if_neg hc104] at h
      refine pG_iff (t := 20) rfl rfl hc104 ?_
      refine pG_many 4 (pc1 := 14) (L1 := [some (.ref 211), some (.int p0), some (.int p1)]) (st1 := [.long 5, .long 0, .long (Int32.toInt64 p1)]) (M1 := mjTo Z) rfl ?_
      cases hq105 : f195_isIn (Int32.toInt64 p1) 0 5 Z with
      | none => rw [hq105] at h; cases h
      | some v106 =>
        rw [hq105, mjBp_some] at h
        refine pG_call (k2 := 195) (As := [.long (Int32.toInt64 p1), .long 0, .long 5]) (rest := []) rfl (by decide) (f195_isIn_ok hq105) ?_
        rintro r9 M9 ⟨rfl, rfl⟩
        show pG 281 17 [some (.ref 211), some (.int p0), some (.int p1)] [.int v106] (mjTo Z) _
        by_cases hc108 : mjCmp .ne v106 0 = true
        · rw [if_pos hc108] at h
          refine pG_ift (t := 24) rfl rfl hc108 ?_
          refine pG_many 1 (pc1 := 25) (L1 := [some (.ref 211), some (.int p0), some (.int p1)]) (st1 := [.int p1]) (M1 := mjTo Z) rfl ?_
          by_cases hs109 : (p1).toInt < 0 ∨ 4 < (p1).toInt
          · rw [if_pos hs109] at h
            refine pG_tso (t := 90) rfl hs109 rfl ?_
            refine pG_many 2 (pc1 := 92) (L1 := [some (.ref 211), some (.int p0), some (.int p1)]) (st1 := [.int p0, .ref 211]) (M1 := mjTo Z) rfl ?_
            cases hq110 : f278_isWaived p0 Z with
            | none => rw [hq110] at h; cases h
            | some v111 =>
              rw [hq110, mjBp_some] at h
              refine pG_callV (k2 := 278) (As := [.ref 211, .int p0]) (rest := []) rfl rfl rfl rfl rfl (by rfl) (by decide) (f278_isWaived_ok hq110) ?_
              rintro r9 M9 ⟨rfl, rfl⟩
              show pG 281 95 [some (.ref 211), some (.int p0), some (.int p1)] [.int v111] (mjTo Z) _
              cases hq113 : f196_truth v111 Z with
              | none => rw [hq113] at h; cases h
              | some v114 =>
                rw [hq113, mjBp_some] at h
                refine pG_call (k2 := 196) (As := [.int v111]) (rest := []) rfl (by decide) (f196_truth_ok hq113) ?_
                rintro r9 M9 ⟨rfl, rfl⟩
                show pG 281 98 [some (.ref 211), some (.int p0), some (.int p1)] [.int v114] (mjTo Z) _
                simp only [Option.some.injEq] at h
                subst h
                exact pG_ret (r := some (.int v114)) rfl ⟨rfl, rfl⟩
          rw [if_neg hs109] at h
          by_cases hs116 : ((p1).toInt - 0).toNat = 0
          · rw [if_pos hs116] at h
            refine pG_tsi (t := 60) (j := 0) (o := 35) rfl hs109 hs116 rfl rfl ?_
            refine pG_many 2 (pc1 := 62) (L1 := [some (.ref 211), some (.int p0), some (.int p1)]) (st1 := [.int p0, .ref 211]) (M1 := mjTo Z) rfl ?_
            cases hq117 : f273_kindOf p0 Z with
            | none => rw [hq117] at h; cases h
            | some v118 =>
              rw [hq117, mjBp_some] at h
              refine pG_callV (k2 := 273) (As := [.ref 211, .int p0]) (rest := []) rfl rfl rfl rfl rfl (by rfl) (by decide) (f273_kindOf_ok hq117) ?_
              rintro r9 M9 ⟨rfl, rfl⟩
              show pG 281 65 [some (.ref 211), some (.int p0), some (.int p1)] [.int v118] (mjTo Z) _
              simp only [Option.some.injEq] at h
              subst h
              exact pG_ret (r := some (.int v118)) rfl ⟨rfl, rfl⟩
          rw [if_neg hs116] at h
          by_cases hs120 : ((p1).toInt - 0).toNat = 1
          · rw [if_pos hs120] at h
            refine pG_tsi (t := 66) (j := 1) (o := 41) rfl hs109 hs120 rfl rfl ?_
            refine pG_many 2 (pc1 := 68) (L1 := [some (.ref 211), some (.int p0), some (.int p1)]) (st1 := [.int p0, .ref 211]) (M1 := mjTo Z) rfl ?_
            cases hq121 : f274_teamOf p0 Z with
            | none => rw [hq121] at h; cases h
            | some v122 =>
              rw [hq121, mjBp_some] at h
              refine pG_callV (k2 := 274) (As := [.ref 211, .int p0]) (rest := []) rfl rfl rfl rfl rfl (by rfl) (by decide) (f274_teamOf_ok hq121) ?_
              rintro r9 M9 ⟨rfl, rfl⟩
              show pG 281 71 [some (.ref 211), some (.int p0), some (.int p1)] [.int v122] (mjTo Z) _
              simp only [Option.some.injEq] at h
              subst h
              exact pG_ret (r := some (.int v122)) rfl ⟨rfl, rfl⟩
          rw [if_neg hs120] at h
          by_cases hs124 : ((p1).toInt - 0).toNat = 2
          · rw [if_pos hs124] at h
            refine pG_tsi (t := 72) (j := 2) (o := 47) rfl hs109 hs124 rfl rfl ?_
            refine pG_many 2 (pc1 := 74) (L1 := [some (.ref 211), some (.int p0), some (.int p1)]) (st1 := [.int p0, .ref 211]) (M1 := mjTo Z) rfl ?_
            cases hq125 : f275_otherOf p0 Z with
            | none => rw [hq125] at h; cases h
            | some v126 =>
              rw [hq125, mjBp_some] at h
              refine pG_callV (k2 := 275) (As := [.ref 211, .int p0]) (rest := []) rfl rfl rfl rfl rfl (by rfl) (by decide) (f275_otherOf_ok hq125) ?_
              rintro r9 M9 ⟨rfl, rfl⟩
              show pG 281 77 [some (.ref 211), some (.int p0), some (.int p1)] [.int v126] (mjTo Z) _
              simp only [Option.some.injEq] at h
              subst h
              exact pG_ret (r := some (.int v126)) rfl ⟨rfl, rfl⟩
          rw [if_neg hs124] at h
          by_cases hs128 : ((p1).toInt - 0).toNat = 3
          · rw [if_pos hs128] at h
            refine pG_tsi (t := 78) (j := 3) (o := 53) rfl hs109 hs128 rfl rfl ?_
            refine pG_many 2 (pc1 := 80) (L1 := [some (.ref 211), some (.int p0), some (.int p1)]) (st1 := [.int p0, .ref 211]) (M1 := mjTo Z) rfl ?_
            cases hq129 : f276_tenthOf p0 Z with
            | none => rw [hq129] at h; cases h
            | some v130 =>
              rw [hq129, mjBp_some] at h
              refine pG_callV (k2 := 276) (As := [.ref 211, .int p0]) (rest := []) rfl rfl rfl rfl rfl (by rfl) (by decide) (f276_tenthOf_ok hq129) ?_
              rintro r9 M9 ⟨rfl, rfl⟩
              show pG 281 83 [some (.ref 211), some (.int p0), some (.int p1)] [.int v130] (mjTo Z) _
              simp only [Option.some.injEq] at h
              subst h
              exact pG_ret (r := some (.int v130)) rfl ⟨rfl, rfl⟩
          rw [if_neg hs128] at h
          by_cases hs132 : ((p1).toInt - 0).toNat = 4
          · rw [if_pos hs132] at h
            refine pG_tsi (t := 84) (j := 4) (o := 59) rfl hs109 hs132 rfl rfl ?_
            refine pG_many 2 (pc1 := 86) (L1 := [some (.ref 211), some (.int p0), some (.int p1)]) (st1 := [.int p0, .ref 211]) (M1 := mjTo Z) rfl ?_
            cases hq133 : f277_sizeOf p0 Z with
            | none => rw [hq133] at h; cases h
            | some v134 =>
              rw [hq133, mjBp_some] at h
              refine pG_callV (k2 := 277) (As := [.ref 211, .int p0]) (rest := []) rfl rfl rfl rfl rfl (by rfl) (by decide) (f277_sizeOf_ok hq133) ?_
              rintro r9 M9 ⟨rfl, rfl⟩
              show pG 281 89 [some (.ref 211), some (.int p0), some (.int p1)] [.int v134] (mjTo Z) _
              simp only [Option.some.injEq] at h
              subst h
              exact pG_ret (r := some (.int v134)) rfl ⟨rfl, rfl⟩
          rw [if_neg hs132] at h
          cases h
        · rw [if_neg hc108] at h
          refine pG_iff (t := 24) rfl rfl hc108 ?_
          refine pG_many 1 (pc1 := 23) (L1 := [some (.ref 211), some (.int p0), some (.int p1)]) (st1 := [.int ((-2000000))]) (M1 := mjTo Z) rfl ?_
          simp only [Option.some.injEq] at h
          subst h
          exact pG_ret (r := some (.int ((-2000000)))) rfl ⟨rfl, rfl⟩
