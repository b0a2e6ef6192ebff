def f303_struck_h34 : Nat → Int32 → Int32 → Int32 → Int32 → Int32 → mjZt → Option (Int32 × mjZt)
  | 0, _, _, _, _, _, _ => none
  | n + 1, x1, x2, x3, x4, x5, Z =>
    mjBp (f251_allActs  Z) fun v113 =>
    if mjCmp .ge x5 v113 = true then
      if mjCmp .ne x2 2 = true then
        if mjCmp .ne x3 ((-1)) = true then
          if mjCmp .ne x2 0 = true then
            mjBd (f298_firstRule x3 Z) fun v120 Z121 =>
            some (v120, Z121)
          else
            some (x3, Z)
        else
          some ((-2), Z)
      else
        some (x4, Z)
    else
      if mjIn x5 48 = true then
      if mjCmp .eq (Z.1 247 (mjIx x5)) 0 = true then
        f303_struck_h34 n x1 x2 x3 x4 (x5 + 1) Z
      else
        mjBp (f274_teamOf x5 Z) fun v125 =>
        if mjCmp .eq v125 x1 = true then
          if mjCmp .eq x3 ((-1)) = true then
            f303_struck_h34 n x1 x2 x5 (x4 + 1) (x5 + 1) Z
          else
            mjBp (f279_isAhead x5 x3 Z) fun v130 =>
            if mjCmp .eq v130 0 = true then
              f303_struck_h34 n x1 x2 x3 (x4 + 1) (x5 + 1) Z
            else
              f303_struck_h34 n x1 x2 x5 (x4 + 1) (x5 + 1) Z
        else
          f303_struck_h34 n x1 x2 x3 x4 (x5 + 1) Z
      else none
set_option maxRecDepth 4000 in
theorem f303_struck_h34_ok : ∀ (n : Nat) (x1 : Int32) (x2 : Int32) (x3 : Int32) (x4 : Int32) (x5 : Int32) (Z : mjZt) (v9 : Int32) (Z9 : mjZt), f303_struck_h34 n x1 x2 x3 x4 x5 Z = some (v9, Z9) → pG 303 34 [some (.ref 211), some (.int x1), some (.int x2), some (.int x3), some (.int x4), some (.int x5)] [] (mjTo Z) (fun r M1 => r = some (.int v9) ∧ M1 = mjTo Z9)
  | 0, x1, x2, x3, x4, x5, Z, v9, Z9, h => by rw [f303_struck_h34] at h; cases h
  | n + 1, x1, x2, x3, x4, x5, Z, v9, Z9, h => by
      rw [f303_struck_h34] at h
      refine pG_many 2 (pc1 := 37) (L1 := [some (.ref 211), some (.int x1), some (.int x2), some (.int x3), some (.int x4), some (.int x5)]) (st1 := [.ref 211, .int x5]) (M1 := mjTo Z) rfl ?_
      cases hq112 : f251_allActs  Z with
      | none => rw [hq112] at h; cases h
      | some v113 =>
        rw [hq112, mjBp_some] at h
        refine pG_callV (k2 := 251) (As := [.ref 211]) (rest := [.int x5]) rfl rfl rfl rfl rfl (by rfl) (by decide) (f251_allActs_ok hq112) ?_
        rintro r9 M9 ⟨rfl, rfl⟩
        show pG 303 40 [some (.ref 211), some (.int x1), some (.int x2), some (.int x3), some (.int x4), some (.int x5)] [.int v113, .int x5] (mjTo Z) _
        by_cases hc115 : mjCmp .ge x5 v113 = true
        · rw [if_pos hc115] at h
          refine pG_cmt (t := 93) rfl rfl hc115 ?_
          refine pG_many 2 (pc1 := 95) (L1 := [some (.ref 211), some (.int x1), some (.int x2), some (.int x3), some (.int x4), some (.int x5)]) (st1 := [.int 2, .int x2]) (M1 := mjTo Z) rfl ?_
          by_cases hc116 : mjCmp .ne x2 2 = true
          · rw [if_pos hc116] at h
            refine pG_cmt (t := 101) rfl rfl hc116 ?_
            refine pG_many 2 (pc1 := 103) (L1 := [some (.ref 211), some (.int x1), some (.int x2), some (.int x3), some (.int x4), some (.int x5)]) (st1 := [.int ((-1)), .int x3]) (M1 := mjTo Z) rfl ?_
            by_cases hc117 : mjCmp .ne x3 ((-1)) = true
            · rw [if_pos hc117] at h
              refine pG_cmt (t := 111) rfl rfl hc117 ?_
              refine pG_many 1 (pc1 := 112) (L1 := [some (.ref 211), some (.int x1), some (.int x2), some (.int x3), some (.int x4), some (.int x5)]) (st1 := [.int x2]) (M1 := mjTo Z) rfl ?_
              by_cases hc118 : mjCmp .ne x2 0 = true
              · rw [if_pos hc118] at h
                refine pG_ift (t := 119) rfl rfl hc118 ?_
                refine pG_many 2 (pc1 := 121) (L1 := [some (.ref 211), some (.int x1), some (.int x2), some (.int x3), some (.int x4), some (.int x5)]) (st1 := [.int x3, .ref 211]) (M1 := mjTo Z) rfl ?_
                cases hq119 : f298_firstRule x3 Z with
                | none => rw [hq119] at h; cases h
                | some w =>
                  obtain ⟨v120, Z121⟩ := w
                  rw [hq119, mjBd_some] at h
                  refine pG_callV (k2 := 298) (As := [.ref 211, .int x3]) (rest := []) rfl rfl rfl rfl rfl (by rfl) (by decide) (f298_firstRule_ok hq119) ?_
                  rintro r9 M9 ⟨rfl, rfl⟩
                  show pG 303 124 [some (.ref 211), some (.int x1), some (.int x2), some (.int x3), some (.int x4), some (.int x5)] [.int v120] (mjTo Z121) _
                  simp only [Option.some.injEq, Prod.mk.injEq] at h
                  obtain ⟨rfl, rfl⟩ := h
                  exact pG_ret (r := some (.int v120)) rfl ⟨rfl, rfl⟩
              · rw [if_neg hc118] at h
                refine pG_iff (t := 119) rfl rfl hc118 ?_
                refine pG_many 2 (pc1 := 124) (L1 := [some (.ref 211), some (.int x1), some (.int x2), some (.int x3), some (.int x4), some (.int x5)]) (st1 := [.int x3]) (M1 := mjTo Z) rfl ?_
                simp only [Option.some.injEq, Prod.mk.injEq] at h
                obtain ⟨rfl, rfl⟩ := h
                exact pG_ret (r := some (.int x3)) rfl ⟨rfl, rfl⟩
            · rw [if_neg hc117] at h
              refine pG_cmf (t := 111) rfl rfl hc117 ?_
              refine pG_many 2 (pc1 := 124) (L1 := [some (.ref 211), some (.int x1), some (.int x2), some (.int x3), some (.int x4), some (.int x5)]) (st1 := [.int ((-2))]) (M1 := mjTo Z) rfl ?_
              simp only [Option.some.injEq, Prod.mk.injEq] at h
              obtain ⟨rfl, rfl⟩ := h
              exact pG_ret (r := some (.int ((-2)))) rfl ⟨rfl, rfl⟩
          · rw [if_neg hc116] at h
            refine pG_cmf (t := 101) rfl rfl hc116 ?_
            refine pG_many 1 (pc1 := 100) (L1 := [some (.ref 211), some (.int x1), some (.int x2), some (.int x3), some (.int x4), some (.int x5)]) (st1 := [.int x4]) (M1 := mjTo Z) rfl ?_
            simp only [Option.some.injEq, Prod.mk.injEq] at h
            obtain ⟨rfl, rfl⟩ := h
            exact pG_ret (r := some (.int x4)) rfl ⟨rfl, rfl⟩
        · rw [if_neg hc115] at h
          refine pG_cmf (t := 93) rfl rfl hc115 ?_
          refine pG_many 1 (pc1 := 44) (L1 := [some (.ref 211), some (.int x1), some (.int x2), some (.int x3), some (.int x4), some (.int x5)]) (st1 := [.ref 211]) (M1 := mjTo Z) rfl ?_
          refine pG_getR (ci := 12) (f := 68) (b := 247) rfl rfl rfl (by rfl) rfl ?_
          refine pG_many 1 (pc1 := 49) (L1 := [some (.ref 211), some (.int x1), some (.int x2), some (.int x3), some (.int x4), some (.int x5)]) (st1 := [.int x5, .ref 247]) (M1 := mjTo Z) rfl ?_
          have hk122 : mjIn x5 48 = true := by
            by_cases q9 : mjIn x5 48 = true
            · exact q9
            · rw [if_neg q9] at h; cases h
          rw [if_pos hk122] at h
          refine pG_bal rfl (by rfl) hk122 ?_
          by_cases hc123 : mjCmp .eq (Z.1 247 (mjIx x5)) 0 = true
          · rw [if_pos hc123] at h
            refine pG_ift (t := 87) rfl rfl hc123 ?_
            refine pG_many 2 (pc1 := 34) (L1 := [some (.ref 211), some (.int x1), some (.int x2), some (.int x3), some (.int x4), some (.int (x5 + 1))]) (st1 := []) (M1 := mjTo Z) rfl ?_
            exact f303_struck_h34_ok n x1 x2 x3 x4 (x5 + 1) Z v9 Z9 h
          · rw [if_neg hc123] at h
            refine pG_iff (t := 87) rfl rfl hc123 ?_
            refine pG_many 2 (pc1 := 56) (L1 := [some (.ref 211), some (.int x1), some (.int x2), some (.int x3), some (.int x4), some (.int x5)]) (st1 := [.int x5, .ref 211]) (M1 := mjTo Z) rfl ?_
            cases hq124 : f274_teamOf x5 Z with
            | none => rw [hq124] at h; cases h
            | some v125 =>
              rw [hq124, mjBp_some] at h
              refine pG_callV (k2 := 274) (As := [.ref 211, .int x5]) (rest := []) rfl rfl rfl rfl rfl (by rfl) (by decide) (f274_teamOf_ok hq124) ?_
              rintro r9 M9 ⟨rfl, rfl⟩
              show pG 303 59 [some (.ref 211), some (.int x1), some (.int x2), some (.int x3), some (.int x4), some (.int x5)] [.int v125] (mjTo Z) _
              refine pG_many 1 (pc1 := 60) (L1 := [some (.ref 211), some (.int x1), some (.int x2), some (.int x3), some (.int x4), some (.int x5)]) (st1 := [.int x1, .int v125]) (M1 := mjTo Z) rfl ?_
              by_cases hc127 : mjCmp .eq v125 x1 = true
              · rw [if_pos hc127] at h
                refine pG_cmt (t := 66) rfl rfl hc127 ?_
                refine pG_many 3 (pc1 := 71) (L1 := [some (.ref 211), some (.int x1), some (.int x2), some (.int x3), some (.int (x4 + 1)), some (.int x5)]) (st1 := [.int ((-1)), .int x3]) (M1 := mjTo Z) rfl ?_
                by_cases hc128 : mjCmp .eq x3 ((-1)) = true
                · rw [if_pos hc128] at h
                  refine pG_cmt (t := 84) rfl rfl hc128 ?_
                  refine pG_many 4 (pc1 := 34) (L1 := [some (.ref 211), some (.int x1), some (.int x2), some (.int x5), some (.int (x4 + 1)), some (.int (x5 + 1))]) (st1 := []) (M1 := mjTo Z) rfl ?_
                  exact f303_struck_h34_ok n x1 x2 x5 (x4 + 1) (x5 + 1) Z v9 Z9 h
                · rw [if_neg hc128] at h
                  refine pG_cmf (t := 84) rfl rfl hc128 ?_
                  refine pG_many 3 (pc1 := 78) (L1 := [some (.ref 211), some (.int x1), some (.int x2), some (.int x3), some (.int (x4 + 1)), some (.int x5)]) (st1 := [.int x3, .int x5, .ref 211]) (M1 := mjTo Z) rfl ?_
                  cases hq129 : f279_isAhead x5 x3 Z with
                  | none => rw [hq129] at h; cases h
                  | some v130 =>
                    rw [hq129, mjBp_some] at h
                    refine pG_callV (k2 := 279) (As := [.ref 211, .int x5, .int x3]) (rest := []) rfl rfl rfl rfl rfl (by rfl) (by decide) (f279_isAhead_ok hq129) ?_
                    rintro r9 M9 ⟨rfl, rfl⟩
                    show pG 303 81 [some (.ref 211), some (.int x1), some (.int x2), some (.int x3), some (.int (x4 + 1)), some (.int x5)] [.int v130] (mjTo Z) _
                    by_cases hc132 : mjCmp .eq v130 0 = true
                    · rw [if_pos hc132] at h
                      refine pG_ift (t := 87) rfl rfl hc132 ?_
                      refine pG_many 2 (pc1 := 34) (L1 := [some (.ref 211), some (.int x1), some (.int x2), some (.int x3), some (.int (x4 + 1)), some (.int (x5 + 1))]) (st1 := []) (M1 := mjTo Z) rfl ?_
                      exact f303_struck_h34_ok n x1 x2 x3 (x4 + 1) (x5 + 1) Z v9 Z9 h
                    · rw [if_neg hc132] at h
                      refine pG_iff (t := 87) rfl rfl hc132 ?_
                      refine pG_many 4 (pc1 := 34) (L1 := [some (.ref 211), some (.int x1), some (.int x2), some (.int x5), some (.int (x4 + 1)), some (.int (x5 + 1))]) (st1 := []) (M1 := mjTo Z) rfl ?_
                      exact f303_struck_h34_ok n x1 x2 x5 (x4 + 1) (x5 + 1) Z v9 Z9 h
              · rw [if_neg hc127] at h
                refine pG_cmf (t := 66) rfl rfl hc127 ?_
                refine pG_many 3 (pc1 := 34) (L1 := [some (.ref 211), some (.int x1), some (.int x2), some (.int x3), some (.int x4), some (.int (x5 + 1))]) (st1 := []) (M1 := mjTo Z) rfl ?_
                exact f303_struck_h34_ok n x1 x2 x3 x4 (x5 + 1) Z v9 Z9 h
def f303_struck (p0 : Int32) (p1 : Int32) (Z : mjZt) : Option (Int32 × mjZt) :=
  mjBp (f240_isTeam p0 Z) fun v102 =>
  if mjCmp .eq v102 0 = true then
    some ((-1), Z)
  else
    mjBp (f195_isIn (Int32.toInt64 p1) 0 2 Z) fun v106 =>
    if mjCmp .ne v106 0 = true then
      mjBd (f302_laysStruck  Z) fun _ Z111 =>
      f303_struck_h34 mjF p0 p1 ((-1)) 0 0 Z111
    else
      some ((-1), Z)
set_option maxRecDepth 4000 in
theorem f303_struck_ok {p0 : Int32} {p1 : Int32} {Z : mjZt} {v9 : Int32} {Z9 : mjZt} (h : f303_struck p0 p1 Z = some (v9, Z9)) : pG 303 0 (mjEnt [.ref 211, .int p0, .int p1] (mjML 303)) [] (mjTo Z) (fun r M1 => r = some (.int v9) ∧ M1 = mjTo Z9) := by
  unfold f303_struck at h
  show pG 303 0 [some (.ref 211), some (.int p0), some (.int p1), none, none, none] [] (mjTo Z) _
  refine pG_many 2 (pc1 := 2) (L1 := [some (.ref 211), some (.int p0), some (.int p1), none, none, none]) (st1 := [.int p0, .ref 211]) (M1 := mjTo Z) rfl ?_
  cases hq101 : f240_isTeam p0 Z with
  | none => rw [hq101] at h; cases h
  | some v102 =>
    rw [hq101, mjBp_some] at h
    refine pG_callV (k2 := 240) (As := [.ref 211, .int p0]) (rest := []) rfl rfl rfl rfl rfl (by rfl) (by decide) (f240_isTeam_ok hq101) ?_
    rintro r9 M9 ⟨rfl, rfl⟩
    show pG 303 5 [some (.ref 211), some (.int p0), some (.int p1), none, none, none] [.int v102] (mjTo Z) _
    by_cases hc104 : mjCmp .eq v102 0 = true
    · rw [if_pos hc104] at h
      refine pG_ift (t := 20) rfl rfl hc104 ?_
      refine pG_many 1 (pc1 := 21) (L1 := [some (.ref 211), some (.int p0), some (.int p1), none, none, none]) (st1 := [.int ((-1))]) (M1 := mjTo Z) rfl ?_
      simp only [Option.some.injEq, Prod.mk.injEq] at h
      obtain ⟨rfl, rfl⟩ := h
      exact pG_ret (r := some (.int ((-1)))) rfl ⟨rfl, rfl⟩
    · rw [if_neg hc104] at h
      refine pG_iff (t := 20) rfl rfl hc104 ?_
      refine pG_many 4 (pc1 := 14) (L1 := [some (.ref 211), some (.int p0), some (.int p1), none, none, none]) (st1 := [.long 2, .long 0, .long (Int32.toInt64 p1)]) (M1 := mjTo Z) rfl ?_
      cases hq105 : f195_isIn (Int32.toInt64 p1) 0 2 Z with
      | none => rw [hq105] at h; cases h
      | some v106 =>
        rw [hq105, mjBp_some] at h
        refine pG_call (k2 := 195) (As := [.long (Int32.toInt64 p1), .long 0, .long 2]) (rest := []) rfl (by decide) (f195_isIn_ok hq105) ?_
        rintro r9 M9 ⟨rfl, rfl⟩
        show pG 303 17 [some (.ref 211), some (.int p0), some (.int p1), none, none, none] [.int v106] (mjTo Z) _
        by_cases hc108 : mjCmp .ne v106 0 = true
        · rw [if_pos hc108] at h
          refine pG_ift (t := 22) rfl rfl hc108 ?_
          refine pG_many 1 (pc1 := 23) (L1 := [some (.ref 211), some (.int p0), some (.int p1), none, none, none]) (st1 := [.ref 211]) (M1 := mjTo Z) rfl ?_
          cases hq109 : f302_laysStruck  Z with
          | none => rw [hq109] at h; cases h
          | some w =>
            obtain ⟨v110, Z111⟩ := w
            rw [hq109, mjBd_some] at h
            refine pG_callV (k2 := 302) (As := [.ref 211]) (rest := []) rfl rfl rfl rfl rfl (by rfl) (by decide) (f302_laysStruck_ok hq109) ?_
            rintro r9 M9 ⟨rfl, rfl⟩
            show pG 303 26 [some (.ref 211), some (.int p0), some (.int p1), none, none, none] [] (mjTo Z111) _
            refine pG_many 6 (pc1 := 34) (L1 := [some (.ref 211), some (.int p0), some (.int p1), some (.int ((-1))), some (.int 0), some (.int 0)]) (st1 := []) (M1 := mjTo Z111) rfl ?_
            exact f303_struck_h34_ok mjF p0 p1 ((-1)) 0 0 Z111 v9 Z9 h
        · rw [if_neg hc108] at h
          refine pG_iff (t := 22) rfl rfl hc108 ?_
          refine pG_many 1 (pc1 := 21) (L1 := [some (.ref 211), some (.int p0), some (.int p1), none, none, none]) (st1 := [.int ((-1))]) (M1 := mjTo Z) rfl ?_
          simp only [Option.some.injEq, Prod.mk.injEq] at h
          obtain ⟨rfl, rfl⟩ := h
          exact pG_ret (r := some (.int ((-1)))) rfl ⟨rfl, rfl⟩
def f304_isInResult (p0 : Int32) (Z : mjZt) : Option Int32 :=
  mjBp (f247_isWhole p0 Z) fun v102 =>
  if mjCmp .eq v102 0 = true then
    some 0
  else
    if mjIn p0 6 = true then
    if mjCmp .ne (Z.1 248 (mjIx p0)) 0 = true then
      some 0
    else
      some 1
    else none
set_option maxRecDepth 4000 in
theorem f304_isInResult_ok {p0 : Int32} {Z : mjZt} {v9 : Int32} (h : f304_isInResult p0 Z = some v9) : pG 304 0 (mjEnt [.ref 211, .int p0] (mjML 304)) [] (mjTo Z) (fun r M1 => r = some (.int v9) ∧ M1 = mjTo Z) := by
  unfold f304_isInResult at h
  show pG 304 0 [some (.ref 211), some (.int p0)] [] (mjTo Z) _
  refine pG_many 2 (pc1 := 2) (L1 := [some (.ref 211), some (.int p0)]) (st1 := [.int p0, .ref 211]) (M1 := mjTo Z) rfl ?_
  cases hq101 : f247_isWhole p0 Z with
  | none => rw [hq101] at h; cases h
  | some v102 =>
    rw [hq101, mjBp_some] at h
    refine pG_callV (k2 := 247) (As := [.ref 211, .int p0]) (rest := []) rfl rfl rfl rfl rfl (by rfl) (by decide) (f247_isWhole_ok hq101) ?_
    rintro r9 M9 ⟨rfl, rfl⟩
    show pG 304 5 [some (.ref 211), some (.int p0)] [.int v102] (mjTo Z) _
    by_cases hc104 : mjCmp .eq v102 0 = true
    · rw [if_pos hc104] at h
      refine pG_ift (t := 21) rfl rfl hc104 ?_
      refine pG_many 1 (pc1 := 22) (L1 := [some (.ref 211), some (.int p0)]) (st1 := [.int 0]) (M1 := mjTo Z) rfl ?_
      simp only [Option.some.injEq] at h
      subst h
      exact pG_ret (r := some (.int 0)) rfl ⟨rfl, rfl⟩
    · rw [if_neg hc104] at h
      refine pG_iff (t := 21) rfl rfl hc104 ?_
      refine pG_many 1 (pc1 := 9) (L1 := [some (.ref 211), some (.int p0)]) (st1 := [.ref 211]) (M1 := mjTo Z) rfl ?_
      refine pG_getR (ci := 12) (f := 69) (b := 248) rfl rfl rfl (by rfl) rfl ?_
      refine pG_many 1 (pc1 := 13) (L1 := [some (.ref 211), some (.int p0)]) (st1 := [.int p0, .ref 248]) (M1 := mjTo Z) rfl ?_
      have hk105 : mjIn p0 6 = true := by
        by_cases q9 : mjIn p0 6 = true
        · exact q9
        · rw [if_neg q9] at h; cases h
      rw [if_pos hk105] at h
      refine pG_bal rfl (by rfl) hk105 ?_
      by_cases hc106 : mjCmp .ne (Z.1 248 (mjIx p0)) 0 = true
      · rw [if_pos hc106] at h
        refine pG_ift (t := 21) rfl rfl hc106 ?_
        refine pG_many 1 (pc1 := 22) (L1 := [some (.ref 211), some (.int p0)]) (st1 := [.int 0]) (M1 := mjTo Z) rfl ?_
        simp only [Option.some.injEq] at h
        subst h
        exact pG_ret (r := some (.int 0)) rfl ⟨rfl, rfl⟩
      · rw [if_neg hc106] at h
        refine pG_iff (t := 21) rfl rfl hc106 ?_
        refine pG_many 2 (pc1 := 22) (L1 := [some (.ref 211), some (.int p0)]) (st1 := [.int 1]) (M1 := mjTo Z) rfl ?_
        simp only [Option.some.injEq] at h
        subst h
        exact pG_ret (r := some (.int 1)) rfl ⟨rfl, rfl⟩
def f305_rankOf_h4 : Nat → Int32 → Int32 → Int32 → mjZt → Option Int32
  | 0, _, _, _, _ => none
  | n + 1, x1, x2, x3, Z =>
    if mjCmp .ge x3 (Z.1 211 39) = true then
      some x2
    else
      mjBp (f304_isInResult x3 Z) fun v103 =>
      if mjCmp .eq v103 0 = true then
        mjBp (f196_truth 0 Z) fun v107 =>
        f305_rankOf_h4 n x1 (x2 + v107) (x3 + 1) Z
      else
        mjBp (f246_timeOf x3 Z) fun v110 =>
        mjBp (f246_timeOf x1 Z) fun v113 =>
        if mjCmp .ge v110 v113 = true then
          mjBp (f196_truth 0 Z) fun v117 =>
          f305_rankOf_h4 n x1 (x2 + v117) (x3 + 1) Z
        else
          mjBp (f196_truth 1 Z) fun v120 =>
          f305_rankOf_h4 n x1 (x2 + v120) (x3 + 1) Z
set_option maxRecDepth 4000 in
theorem f305_rankOf_h4_ok : ∀ (n : Nat) (x1 : Int32) (x2 : Int32) (x3 : Int32) (Z : mjZt) (v9 : Int32), f305_rankOf_h4 n x1 x2 x3 Z = some v9 → pG 305 4 [some (.ref 211), some (.int x1), some (.int x2), some (.int x3)] [] (mjTo Z) (fun r M1 => r = some (.int v9) ∧ M1 = mjTo Z)
  | 0, x1, x2, x3, Z, v9, h => by rw [f305_rankOf_h4] at h; cases h
  | n + 1, x1, x2, x3, Z, v9, h => by
      rw [f305_rankOf_h4] at h
      refine pG_many 2 (pc1 := 6) (L1 := [some (.ref 211), some (.int x1), some (.int x2), some (.int x3)]) (st1 := [.ref 211, .int x3]) (M1 := mjTo Z) rfl ?_
      refine pG_getI (ci := 12) (f := 39) rfl rfl (Or.inl rfl) (by rfl) ?_
      by_cases hc101 : mjCmp .ge x3 (Z.1 211 39) = true
      · rw [if_pos hc101] at h
        refine pG_cmt (t := 50) rfl rfl hc101 ?_
        refine pG_many 1 (pc1 := 51) (L1 := [some (.ref 211), some (.int x1), some (.int x2), some (.int x3)]) (st1 := [.int x2]) (M1 := mjTo Z) rfl ?_
        simp only [Option.some.injEq] at h
        subst h
        exact pG_ret (r := some (.int x2)) rfl ⟨rfl, rfl⟩
      · rw [if_neg hc101] at h
        refine pG_cmf (t := 50) rfl rfl hc101 ?_
        refine pG_many 3 (pc1 := 15) (L1 := [some (.ref 211), some (.int x1), some (.int x2), some (.int x3)]) (st1 := [.int x3, .ref 211, .int x2]) (M1 := mjTo Z) rfl ?_
        cases hq102 : f304_isInResult x3 Z with
        | none => rw [hq102] at h; cases h
        | some v103 =>
          rw [hq102, mjBp_some] at h
          refine pG_callV (k2 := 304) (As := [.ref 211, .int x3]) (rest := [.int x2]) rfl rfl rfl rfl rfl (by rfl) (by decide) (f304_isInResult_ok hq102) ?_
          rintro r9 M9 ⟨rfl, rfl⟩
          show pG 305 18 [some (.ref 211), some (.int x1), some (.int x2), some (.int x3)] [.int v103, .int x2] (mjTo Z) _
          by_cases hc105 : mjCmp .eq v103 0 = true
          · rw [if_pos hc105] at h
            refine pG_ift (t := 38) rfl rfl hc105 ?_
            refine pG_many 1 (pc1 := 39) (L1 := [some (.ref 211), some (.int x1), some (.int x2), some (.int x3)]) (st1 := [.int 0, .int x2]) (M1 := mjTo Z) rfl ?_
            cases hq106 : f196_truth 0 Z with
            | none => rw [hq106] at h; cases h
            | some v107 =>
              rw [hq106, mjBp_some] at h
              refine pG_call (k2 := 196) (As := [.int 0]) (rest := [.int x2]) rfl (by decide) (f196_truth_ok hq106) ?_
              rintro r9 M9 ⟨rfl, rfl⟩
              show pG 305 42 [some (.ref 211), some (.int x1), some (.int x2), some (.int x3)] [.int v107, .int x2] (mjTo Z) _
              refine pG_many 4 (pc1 := 4) (L1 := [some (.ref 211), some (.int x1), some (.int (x2 + v107)), some (.int (x3 + 1))]) (st1 := []) (M1 := mjTo Z) rfl ?_
              exact f305_rankOf_h4_ok n x1 (x2 + v107) (x3 + 1) Z v9 h
          · rw [if_neg hc105] at h
            refine pG_iff (t := 38) rfl rfl hc105 ?_
            refine pG_many 2 (pc1 := 23) (L1 := [some (.ref 211), some (.int x1), some (.int x2), some (.int x3)]) (st1 := [.int x3, .ref 211, .int x2]) (M1 := mjTo Z) rfl ?_
            cases hq109 : f246_timeOf x3 Z with
            | none => rw [hq109] at h; cases h
            | some v110 =>
              rw [hq109, mjBp_some] at h
              refine pG_callV (k2 := 246) (As := [.ref 211, .int x3]) (rest := [.int x2]) rfl rfl rfl rfl rfl (by rfl) (by decide) (f246_timeOf_ok hq109) ?_
              rintro r9 M9 ⟨rfl, rfl⟩
              show pG 305 26 [some (.ref 211), some (.int x1), some (.int x2), some (.int x3)] [.int v110, .int x2] (mjTo Z) _
              refine pG_many 2 (pc1 := 28) (L1 := [some (.ref 211), some (.int x1), some (.int x2), some (.int x3)]) (st1 := [.int x1, .ref 211, .int v110, .int x2]) (M1 := mjTo Z) rfl ?_
              cases hq112 : f246_timeOf x1 Z with
              | none => rw [hq112] at h; cases h
              | some v113 =>
                rw [hq112, mjBp_some] at h
                refine pG_callV (k2 := 246) (As := [.ref 211, .int x1]) (rest := [.int v110, .int x2]) rfl rfl rfl rfl rfl (by rfl) (by decide) (f246_timeOf_ok hq112) ?_
                rintro r9 M9 ⟨rfl, rfl⟩
                show pG 305 31 [some (.ref 211), some (.int x1), some (.int x2), some (.int x3)] [.int v113, .int v110, .int x2] (mjTo Z) _
                by_cases hc115 : mjCmp .ge v110 v113 = true
                · rw [if_pos hc115] at h
                  refine pG_cmt (t := 38) rfl rfl hc115 ?_
                  refine pG_many 1 (pc1 := 39) (L1 := [some (.ref 211), some (.int x1), some (.int x2), some (.int x3)]) (st1 := [.int 0, .int x2]) (M1 := mjTo Z) rfl ?_
                  cases hq116 : f196_truth 0 Z with
                  | none => rw [hq116] at h; cases h
                  | some v117 =>
                    rw [hq116, mjBp_some] at h
                    refine pG_call (k2 := 196) (As := [.int 0]) (rest := [.int x2]) rfl (by decide) (f196_truth_ok hq116) ?_
                    rintro r9 M9 ⟨rfl, rfl⟩
                    show pG 305 42 [some (.ref 211), some (.int x1), some (.int x2), some (.int x3)] [.int v117, .int x2] (mjTo Z) _
                    refine pG_many 4 (pc1 := 4) (L1 := [some (.ref 211), some (.int x1), some (.int (x2 + v117)), some (.int (x3 + 1))]) (st1 := []) (M1 := mjTo Z) rfl ?_
                    exact f305_rankOf_h4_ok n x1 (x2 + v117) (x3 + 1) Z v9 h
                · rw [if_neg hc115] at h
                  refine pG_cmf (t := 38) rfl rfl hc115 ?_
                  refine pG_many 2 (pc1 := 39) (L1 := [some (.ref 211), some (.int x1), some (.int x2), some (.int x3)]) (st1 := [.int 1, .int x2]) (M1 := mjTo Z) rfl ?_
                  cases hq119 : f196_truth 1 Z with
                  | none => rw [hq119] at h; cases h
                  | some v120 =>
                    rw [hq119, mjBp_some] at h
                    refine pG_call (k2 := 196) (As := [.int 1]) (rest := [.int x2]) rfl (by decide) (f196_truth_ok hq119) ?_
                    rintro r9 M9 ⟨rfl, rfl⟩
                    show pG 305 42 [some (.ref 211), some (.int x1), some (.int x2), some (.int x3)] [.int v120, .int x2] (mjTo Z) _
                    refine pG_many 4 (pc1 := 4) (L1 := [some (.ref 211), some (.int x1), some (.int (x2 + v120)), some (.int (x3 + 1))]) (st1 := []) (M1 := mjTo Z) rfl ?_
                    exact f305_rankOf_h4_ok n x1 (x2 + v120) (x3 + 1) Z v9 h
def f305_rankOf (p0 : Int32) (Z : mjZt) : Option Int32 :=
  f305_rankOf_h4 mjF p0 1 0 Z
set_option maxRecDepth 4000 in
theorem f305_rankOf_ok {p0 : Int32} {Z : mjZt} {v9 : Int32} (h : f305_rankOf p0 Z = some v9) : pG 305 0 (mjEnt [.ref 211, .int p0] (mjML 305)) [] (mjTo Z) (fun r M1 => r = some (.int v9) ∧ M1 = mjTo Z) := by
  unfold f305_rankOf at h
  show pG 305 0 [some (.ref 211), some (.int p0), none, none] [] (mjTo Z) _
  refine pG_many 4 (pc1 := 4) (L1 := [some (.ref 211), some (.int p0), some (.int 1), some (.int 0)]) (st1 := []) (M1 := mjTo Z) rfl ?_
  exact f305_rankOf_h4_ok mjF p0 1 0 Z v9 h
def f306_rank (p0 : Int32) (Z : mjZt) : Option (Int32 × mjZt) :=
  mjBp (f240_isTeam p0 Z) fun v102 =>
  if mjCmp .ne v102 0 = true then
    mjBd (f302_laysStruck  Z) fun _ Z107 =>
    mjBp (f304_isInResult p0 Z107) fun v109 =>
    if mjCmp .eq v109 0 = true then
      some ((-2), Z107)
    else
      mjBp (f305_rankOf p0 Z107) fun v113 =>
      some (v113, Z107)
  else
    some ((-1), Z)
set_option maxRecDepth 4000 in
theorem f306_rank_ok {p0 : Int32} {Z : mjZt} {v9 : Int32} {Z9 : mjZt} (h : f306_rank p0 Z = some (v9, Z9)) : pG 306 0 (mjEnt [.ref 211, .int p0] (mjML 306)) [] (mjTo Z) (fun r M1 => r = some (.int v9) ∧ M1 = mjTo Z9) := by
  unfold f306_rank at h
  show pG 306 0 [some (.ref 211), some (.int p0)] [] (mjTo Z) _
  refine pG_many 2 (pc1 := 2) (L1 := [some (.ref 211), some (.int p0)]) (st1 := [.int p0, .ref 211]) (M1 := mjTo Z) rfl ?_
  cases hq101 : f240_isTeam p0 Z with
  | none => rw [hq101] at h; cases h
  | some v102 =>
    rw [hq101, mjBp_some] at h
    refine pG_callV (k2 := 240) (As := [.ref 211, .int p0]) (rest := []) rfl rfl rfl rfl rfl (by rfl) (by decide) (f240_isTeam_ok hq101) ?_
    rintro r9 M9 ⟨rfl, rfl⟩
    show pG 306 5 [some (.ref 211), some (.int p0)] [.int v102] (mjTo Z) _
    by_cases hc104 : mjCmp .ne v102 0 = true
    · rw [if_pos hc104] at h
      refine pG_ift (t := 10) rfl rfl hc104 ?_
      refine pG_many 1 (pc1 := 11) (L1 := [some (.ref 211), some (.int p0)]) (st1 := [.ref 211]) (M1 := mjTo Z) rfl ?_
      cases hq105 : f302_laysStruck  Z with
      | none => rw [hq105] at h; cases h
      | some w =>
        obtain ⟨v106, Z107⟩ := w
        rw [hq105, mjBd_some] at h
        refine pG_callV (k2 := 302) (As := [.ref 211]) (rest := []) rfl rfl rfl rfl rfl (by rfl) (by decide) (f302_laysStruck_ok hq105) ?_
        rintro r9 M9 ⟨rfl, rfl⟩
        show pG 306 14 [some (.ref 211), some (.int p0)] [] (mjTo Z107) _
        refine pG_many 2 (pc1 := 16) (L1 := [some (.ref 211), some (.int p0)]) (st1 := [.int p0, .ref 211]) (M1 := mjTo Z107) rfl ?_
        cases hq108 : f304_isInResult p0 Z107 with
        | none => rw [hq108] at h; cases h
        | some v109 =>
          rw [hq108, mjBp_some] at h
          refine pG_callV (k2 := 304) (As := [.ref 211, .int p0]) (rest := []) rfl rfl rfl rfl rfl (by rfl) (by decide) (f304_isInResult_ok hq108) ?_
          rintro r9 M9 ⟨rfl, rfl⟩
          show pG 306 19 [some (.ref 211), some (.int p0)] [.int v109] (mjTo Z107) _
          by_cases hc111 : mjCmp .eq v109 0 = true
          · rw [if_pos hc111] at h
            refine pG_ift (t := 30) rfl rfl hc111 ?_
            refine pG_many 1 (pc1 := 32) (L1 := [some (.ref 211), some (.int p0)]) (st1 := [.int ((-2))]) (M1 := mjTo Z107) rfl ?_
            simp only [Option.some.injEq, Prod.mk.injEq] at h
            obtain ⟨rfl, rfl⟩ := h
            exact pG_ret (r := some (.int ((-2)))) rfl ⟨rfl, rfl⟩
          · rw [if_neg hc111] at h
            refine pG_iff (t := 30) rfl rfl hc111 ?_
            refine pG_many 2 (pc1 := 24) (L1 := [some (.ref 211), some (.int p0)]) (st1 := [.int p0, .ref 211]) (M1 := mjTo Z107) rfl ?_
            cases hq112 : f305_rankOf p0 Z107 with
            | none => rw [hq112] at h; cases h
            | some v113 =>
              rw [hq112, mjBp_some] at h
              refine pG_callV (k2 := 305) (As := [.ref 211, .int p0]) (rest := []) rfl rfl rfl rfl rfl (by rfl) (by decide) (f305_rankOf_ok hq112) ?_
              rintro r9 M9 ⟨rfl, rfl⟩
              show pG 306 27 [some (.ref 211), some (.int p0)] [.int v113] (mjTo Z107) _
              refine pG_many 1 (pc1 := 32) (L1 := [some (.ref 211), some (.int p0)]) (st1 := [.int v113]) (M1 := mjTo Z107) rfl ?_
              simp only [Option.some.injEq, Prod.mk.injEq] at h
              obtain ⟨rfl, rfl⟩ := h
              exact pG_ret (r := some (.int v113)) rfl ⟨rfl, rfl⟩
    · rw [if_neg hc104] at h
      refine pG_iff (t := 10) rfl rfl hc104 ?_
      refine pG_many 1 (pc1 := 9) (L1 := [some (.ref 211), some (.int p0)]) (st1 := [.int ((-1))]) (M1 := mjTo Z) rfl ?_
      simp only [Option.some.injEq, Prod.mk.injEq] at h
      obtain ⟨rfl, rfl⟩ := h
      exact pG_ret (r := some (.int ((-1)))) rfl ⟨rfl, rfl⟩
def f307_fairRank_h29 : Nat → Int32 → Int32 → Int32 → mjZt → Option (Int32 × mjZt)
  | 0, _, _, _, _ => none
  | n + 1, x1, x2, x3, Z =>
    if mjCmp .ge x3 (Z.1 211 39) = true then
      some (x2, Z)
    else
      mjBp (f304_isInResult x3 Z) fun v114 =>
      if mjCmp .eq v114 0 = true then
        mjBp (f196_truth 0 Z) fun v118 =>
        f307_fairRank_h29 n x1 (x2 + v118) (x3 + 1) Z
      else
        if mjIn x3 6 = true then
        if mjIn x1 6 = true then
        if mjCmp .ge (Z.1 250 (mjIx x3)) (Z.1 250 (mjIx x1)) = true then
          mjBp (f196_truth 0 Z) fun v124 =>
          f307_fairRank_h29 n x1 (x2 + v124) (x3 + 1) Z
        else
          mjBp (f196_truth 1 Z) fun v127 =>
          f307_fairRank_h29 n x1 (x2 + v127) (x3 + 1) Z
        else none
        else none
set_option maxRecDepth 4000 in
theorem f307_fairRank_h29_ok : ∀ (n : Nat) (x1 : Int32) (x2 : Int32) (x3 : Int32) (Z : mjZt) (v9 : Int32) (Z9 : mjZt), f307_fairRank_h29 n x1 x2 x3 Z = some (v9, Z9) → pG 307 29 [some (.ref 211), some (.int x1), some (.int x2), some (.int x3)] [] (mjTo Z) (fun r M1 => r = some (.int v9) ∧ M1 = mjTo Z9)
  | 0, x1, x2, x3, Z, v9, Z9, h => by rw [f307_fairRank_h29] at h; cases h
  | n + 1, x1, x2, x3, Z, v9, Z9, h => by
      rw [f307_fairRank_h29] at h
      refine pG_many 2 (pc1 := 31) (L1 := [some (.ref 211), some (.int x1), some (.int x2), some (.int x3)]) (st1 := [.ref 211, .int x3]) (M1 := mjTo Z) rfl ?_
      refine pG_getI (ci := 12) (f := 39) rfl rfl (Or.inl rfl) (by rfl) ?_
      by_cases hc112 : mjCmp .ge x3 (Z.1 211 39) = true
      · rw [if_pos hc112] at h
        refine pG_cmt (t := 77) rfl rfl hc112 ?_
        refine pG_many 1 (pc1 := 78) (L1 := [some (.ref 211), some (.int x1), some (.int x2), some (.int x3)]) (st1 := [.int x2]) (M1 := mjTo Z) rfl ?_
        simp only [Option.some.injEq, Prod.mk.injEq] at h
        obtain ⟨rfl, rfl⟩ := h
        exact pG_ret (r := some (.int x2)) rfl ⟨rfl, rfl⟩
      · rw [if_neg hc112] at h
        refine pG_cmf (t := 77) rfl rfl hc112 ?_
        refine pG_many 3 (pc1 := 40) (L1 := [some (.ref 211), some (.int x1), some (.int x2), some (.int x3)]) (st1 := [.int x3, .ref 211, .int x2]) (M1 := mjTo Z) rfl ?_
        cases hq113 : f304_isInResult x3 Z with
        | none => rw [hq113] at h; cases h
        | some v114 =>
          rw [hq113, mjBp_some] at h
          refine pG_callV (k2 := 304) (As := [.ref 211, .int x3]) (rest := [.int x2]) rfl rfl rfl rfl rfl (by rfl) (by decide) (f304_isInResult_ok hq113) ?_
          rintro r9 M9 ⟨rfl, rfl⟩
          show pG 307 43 [some (.ref 211), some (.int x1), some (.int x2), some (.int x3)] [.int v114, .int x2] (mjTo Z) _
          by_cases hc116 : mjCmp .eq v114 0 = true
          · rw [if_pos hc116] at h
            refine pG_ift (t := 65) rfl rfl hc116 ?_
            refine pG_many 1 (pc1 := 66) (L1 := [some (.ref 211), some (.int x1), some (.int x2), some (.int x3)]) (st1 := [.int 0, .int x2]) (M1 := mjTo Z) rfl ?_
            cases hq117 : f196_truth 0 Z with
            | none => rw [hq117] at h; cases h
            | some v118 =>
              rw [hq117, mjBp_some] at h
              refine pG_call (k2 := 196) (As := [.int 0]) (rest := [.int x2]) rfl (by decide) (f196_truth_ok hq117) ?_
              rintro r9 M9 ⟨rfl, rfl⟩
              show pG 307 69 [some (.ref 211), some (.int x1), some (.int x2), some (.int x3)] [.int v118, .int x2] (mjTo Z) _
              refine pG_many 4 (pc1 := 29) (L1 := [some (.ref 211), some (.int x1), some (.int (x2 + v118)), some (.int (x3 + 1))]) (st1 := []) (M1 := mjTo Z) rfl ?_
              exact f307_fairRank_h29_ok n x1 (x2 + v118) (x3 + 1) Z v9 Z9 h
          · rw [if_neg hc116] at h
            refine pG_iff (t := 65) rfl rfl hc116 ?_
            refine pG_many 1 (pc1 := 47) (L1 := [some (.ref 211), some (.int x1), some (.int x2), some (.int x3)]) (st1 := [.ref 211, .int x2]) (M1 := mjTo Z) rfl ?_
            refine pG_getR (ci := 12) (f := 71) (b := 250) rfl rfl rfl (by rfl) rfl ?_
            refine pG_many 1 (pc1 := 51) (L1 := [some (.ref 211), some (.int x1), some (.int x2), some (.int x3)]) (st1 := [.int x3, .ref 250, .int x2]) (M1 := mjTo Z) rfl ?_
            have hk120 : mjIn x3 6 = true := by
              by_cases q9 : mjIn x3 6 = true
              · exact q9
              · rw [if_neg q9] at h; cases h
            rw [if_pos hk120] at h
            refine pG_ial rfl (by rfl) hk120 ?_
            refine pG_many 1 (pc1 := 53) (L1 := [some (.ref 211), some (.int x1), some (.int x2), some (.int x3)]) (st1 := [.ref 211, .int (Z.1 250 (mjIx x3)), .int x2]) (M1 := mjTo Z) rfl ?_
            refine pG_getR (ci := 12) (f := 71) (b := 250) rfl rfl rfl (by rfl) rfl ?_
            refine pG_many 1 (pc1 := 57) (L1 := [some (.ref 211), some (.int x1), some (.int x2), some (.int x3)]) (st1 := [.int x1, .ref 250, .int (Z.1 250 (mjIx x3)), .int x2]) (M1 := mjTo Z) rfl ?_
            have hk121 : mjIn x1 6 = true := by
              by_cases q9 : mjIn x1 6 = true
              · exact q9
              · rw [if_neg q9] at h; cases h
            rw [if_pos hk121] at h
            refine pG_ial rfl (by rfl) hk121 ?_
            by_cases hc122 : mjCmp .ge (Z.1 250 (mjIx x3)) (Z.1 250 (mjIx x1)) = true
            · rw [if_pos hc122] at h
              refine pG_cmt (t := 65) rfl rfl hc122 ?_
              refine pG_many 1 (pc1 := 66) (L1 := [some (.ref 211), some (.int x1), some (.int x2), some (.int x3)]) (st1 := [.int 0, .int x2]) (M1 := mjTo Z) rfl ?_
              cases hq123 : f196_truth 0 Z with
              | none => rw [hq123] at h; cases h
              | some v124 =>
                rw [hq123, mjBp_some] at h
                refine pG_call (k2 := 196) (As := [.int 0]) (rest := [.int x2]) rfl (by decide) (f196_truth_ok hq123) ?_
                rintro r9 M9 ⟨rfl, rfl⟩
                show pG 307 69 [some (.ref 211), some (.int x1), some (.int x2), some (.int x3)] [.int v124, .int x2] (mjTo Z) _
                refine pG_many 4 (pc1 := 29) (L1 := [some (.ref 211), some (.int x1), some (.int (x2 + v124)), some (.int (x3 + 1))]) (st1 := []) (M1 := mjTo Z) rfl ?_
                exact f307_fairRank_h29_ok n x1 (x2 + v124) (x3 + 1) Z v9 Z9 h
            · rw [if_neg hc122] at h
              refine pG_cmf (t := 65) rfl rfl hc122 ?_
              refine pG_many 2 (pc1 := 66) (L1 := [some (.ref 211), some (.int x1), some (.int x2), some (.int x3)]) (st1 := [.int 1, .int x2]) (M1 := mjTo Z) rfl ?_
              cases hq126 : f196_truth 1 Z with
              | none => rw [hq126] at h; cases h
              | some v127 =>
                rw [hq126, mjBp_some] at h
                refine pG_call (k2 := 196) (As := [.int 1]) (rest := [.int x2]) rfl (by decide) (f196_truth_ok hq126) ?_
                rintro r9 M9 ⟨rfl, rfl⟩
                show pG 307 69 [some (.ref 211), some (.int x1), some (.int x2), some (.int x3)] [.int v127, .int x2] (mjTo Z) _
                refine pG_many 4 (pc1 := 29) (L1 := [some (.ref 211), some (.int x1), some (.int (x2 + v127)), some (.int (x3 + 1))]) (st1 := []) (M1 := mjTo Z) rfl ?_
                exact f307_fairRank_h29_ok n x1 (x2 + v127) (x3 + 1) Z v9 Z9 h
def f307_fairRank (p0 : Int32) (Z : mjZt) : Option (Int32 × mjZt) :=
  mjBp (f240_isTeam p0 Z) fun v102 =>
  if mjCmp .ne v102 0 = true then
    mjBd (f302_laysStruck  Z) fun _ Z107 =>
    mjBp (f304_isInResult p0 Z107) fun v109 =>
    if mjCmp .ne v109 0 = true then
      f307_fairRank_h29 mjF p0 1 0 Z107
    else
      some ((-2), Z107)
  else
    some ((-1), Z)
set_option maxRecDepth 4000 in
theorem f307_fairRank_ok {p0 : Int32} {Z : mjZt} {v9 : Int32} {Z9 : mjZt} (h : f307_fairRank p0 Z = some (v9, Z9)) : pG 307 0 (mjEnt [.ref 211, .int p0] (mjML 307)) [] (mjTo Z) (fun r M1 => r = some (.int v9) ∧ M1 = mjTo Z9) := by
  unfold f307_fairRank at h
  show pG 307 0 [some (.ref 211), some (.int p0), none, none] [] (mjTo Z) _
  refine pG_many 2 (pc1 := 2) (L1 := [some (.ref 211), some (.int p0), none, none]) (st1 := [.int p0, .ref 211]) (M1 := mjTo Z) rfl ?_
  cases hq101 : f240_isTeam p0 Z with
  | none => rw [hq101] at h; cases h
  | some v102 =>
    rw [hq101, mjBp_some] at h
    refine pG_callV (k2 := 240) (As := [.ref 211, .int p0]) (rest := []) rfl rfl rfl rfl rfl (by rfl) (by decide) (f240_isTeam_ok hq101) ?_
    rintro r9 M9 ⟨rfl, rfl⟩
    show pG 307 5 [some (.ref 211), some (.int p0), none, none] [.int v102] (mjTo Z) _
    by_cases hc104 : mjCmp .ne v102 0 = true
    · rw [if_pos hc104] at h
      refine pG_ift (t := 10) rfl rfl hc104 ?_
      refine pG_many 1 (pc1 := 11) (L1 := [some (.ref 211), some (.int p0), none, none]) (st1 := [.ref 211]) (M1 := mjTo Z) rfl ?_
      cases hq105 : f302_laysStruck  Z with
      | none => rw [hq105] at h; cases h
      | some w =>
        obtain ⟨v106, Z107⟩ := w
        rw [hq105, mjBd_some] at h
        refine pG_callV (k2 := 302) (As := [.ref 211]) (rest := []) rfl rfl rfl rfl rfl (by rfl) (by decide) (f302_laysStruck_ok hq105) ?_
        rintro r9 M9 ⟨rfl, rfl⟩
        show pG 307 14 [some (.ref 211), some (.int p0), none, none] [] (mjTo Z107) _
        refine pG_many 2 (pc1 := 16) (L1 := [some (.ref 211), some (.int p0), none, none]) (st1 := [.int p0, .ref 211]) (M1 := mjTo Z107) rfl ?_
        cases hq108 : f304_isInResult p0 Z107 with
        | none => rw [hq108] at h; cases h
        | some v109 =>
          rw [hq108, mjBp_some] at h
          refine pG_callV (k2 := 304) (As := [.ref 211, .int p0]) (rest := []) rfl rfl rfl rfl rfl (by rfl) (by decide) (f304_isInResult_ok hq108) ?_
          rintro r9 M9 ⟨rfl, rfl⟩
          show pG 307 19 [some (.ref 211), some (.int p0), none, none] [.int v109] (mjTo Z107) _
          by_cases hc111 : mjCmp .ne v109 0 = true
          · rw [if_pos hc111] at h
            refine pG_ift (t := 25) rfl rfl hc111 ?_
            refine pG_many 4 (pc1 := 29) (L1 := [some (.ref 211), some (.int p0), some (.int 1), some (.int 0)]) (st1 := []) (M1 := mjTo Z107) rfl ?_
            exact f307_fairRank_h29_ok mjF p0 1 0 Z107 v9 Z9 h
          · rw [if_neg hc111] at h
            refine pG_iff (t := 25) rfl rfl hc111 ?_
            refine pG_many 1 (pc1 := 24) (L1 := [some (.ref 211), some (.int p0), none, none]) (st1 := [.int ((-2))]) (M1 := mjTo Z107) rfl ?_
            simp only [Option.some.injEq, Prod.mk.injEq] at h
            obtain ⟨rfl, rfl⟩ := h
            exact pG_ret (r := some (.int ((-2)))) rfl ⟨rfl, rfl⟩
    · rw [if_neg hc104] at h
      refine pG_iff (t := 10) rfl rfl hc104 ?_
      refine pG_many 1 (pc1 := 9) (L1 := [some (.ref 211), some (.int p0), none, none]) (st1 := [.int ((-1))]) (M1 := mjTo Z) rfl ?_
      simp only [Option.some.injEq, Prod.mk.injEq] at h
      obtain ⟨rfl, rfl⟩ := h
      exact pG_ret (r := some (.int ((-1)))) rfl ⟨rfl, rfl⟩
def f308_resultAt_h6 : Nat → Int32 → Int32 → mjZt → Option (Int32 × mjZt)
  | 0, _, _, _ => none
  | n + 1, x1, x2, Z =>
    if mjCmp .ge x2 (Z.1 211 39) = true then
      mjBp (f259_keyedAt x1 Z) fun v106 =>
      some (v106, Z)
    else
      mjBp (f304_isInResult x2 Z) fun v109 =>
      if mjIn x2 6 = true then
      if v109 = 0 ∨ v109 = 1 then
      mjLet (zSi Z 242 (mjIx x2) v109) fun Z113 =>
      mjBp (f246_timeOf x2 Z113) fun v115 =>
      mjLet (zSi Z113 241 (mjIx x2) v115) fun Z117 =>
      f308_resultAt_h6 n x1 (x2 + 1) Z117
      else none
      else none
set_option maxRecDepth 4000 in
theorem f308_resultAt_h6_ok : ∀ (n : Nat) (x1 : Int32) (x2 : Int32) (Z : mjZt) (v9 : Int32) (Z9 : mjZt), f308_resultAt_h6 n x1 x2 Z = some (v9, Z9) → pG 308 6 [some (.ref 211), some (.int x1), some (.int x2)] [] (mjTo Z) (fun r M1 => r = some (.int v9) ∧ M1 = mjTo Z9)
  | 0, x1, x2, Z, v9, Z9, h => by rw [f308_resultAt_h6] at h; cases h
  | n + 1, x1, x2, Z, v9, Z9, h => by
      rw [f308_resultAt_h6] at h
      refine pG_many 2 (pc1 := 8) (L1 := [some (.ref 211), some (.int x1), some (.int x2)]) (st1 := [.ref 211, .int x2]) (M1 := mjTo Z) rfl ?_
      refine pG_getI (ci := 12) (f := 39) rfl rfl (Or.inl rfl) (by rfl) ?_
      by_cases hc104 : mjCmp .ge x2 (Z.1 211 39) = true
      · rw [if_pos hc104] at h
        refine pG_cmt (t := 42) rfl rfl hc104 ?_
        refine pG_many 2 (pc1 := 44) (L1 := [some (.ref 211), some (.int x1), some (.int x2)]) (st1 := [.int x1, .ref 211]) (M1 := mjTo Z) rfl ?_
        cases hq105 : f259_keyedAt x1 Z with
        | none => rw [hq105] at h; cases h
        | some v106 =>
          rw [hq105, mjBp_some] at h
          refine pG_callV (k2 := 259) (As := [.ref 211, .int x1]) (rest := []) rfl rfl rfl rfl rfl (by rfl) (by decide) (f259_keyedAt_ok hq105) ?_
          rintro r9 M9 ⟨rfl, rfl⟩
          show pG 308 47 [some (.ref 211), some (.int x1), some (.int x2)] [.int v106] (mjTo Z) _
          simp only [Option.some.injEq, Prod.mk.injEq] at h
          obtain ⟨rfl, rfl⟩ := h
          exact pG_ret (r := some (.int v106)) rfl ⟨rfl, rfl⟩
      · rw [if_neg hc104] at h
        refine pG_cmf (t := 42) rfl rfl hc104 ?_
        refine pG_many 1 (pc1 := 15) (L1 := [some (.ref 211), some (.int x1), some (.int x2)]) (st1 := [.ref 211]) (M1 := mjTo Z) rfl ?_
        refine pG_getR (ci := 12) (f := 58) (b := 242) rfl rfl rfl (by rfl) rfl ?_
        refine pG_many 3 (pc1 := 21) (L1 := [some (.ref 211), some (.int x1), some (.int x2)]) (st1 := [.int x2, .ref 211, .int x2, .ref 242]) (M1 := mjTo Z) rfl ?_
        cases hq108 : f304_isInResult x2 Z with
        | none => rw [hq108] at h; cases h
        | some v109 =>
          rw [hq108, mjBp_some] at h
          refine pG_callV (k2 := 304) (As := [.ref 211, .int x2]) (rest := [.int x2, .ref 242]) rfl rfl rfl rfl rfl (by rfl) (by decide) (f304_isInResult_ok hq108) ?_
          rintro r9 M9 ⟨rfl, rfl⟩
          show pG 308 24 [some (.ref 211), some (.int x1), some (.int x2)] [.int v109, .int x2, .ref 242] (mjTo Z) _
          have hk111 : mjIn x2 6 = true := by
            by_cases q9 : mjIn x2 6 = true
            · exact q9
            · rw [if_neg q9] at h; cases h
          rw [if_pos hk111] at h
          have hk112 : v109 = 0 ∨ v109 = 1 := by
            by_cases q9 : v109 = 0 ∨ v109 = 1
            · exact q9
            · rw [if_neg q9] at h; cases h
          rw [if_pos hk112] at h
          refine pG_bas rfl (by rfl) hk111 hk112 (?_ : pG 308 25 [some (.ref 211), some (.int x1), some (.int x2)] [] (mjTo (zSi Z 242 (mjIx x2) v109)) _)
          rw [mjLet] at h
          generalize zSi Z 242 (mjIx x2) v109 = Z113 at h ⊢
          refine pG_many 1 (pc1 := 26) (L1 := [some (.ref 211), some (.int x1), some (.int x2)]) (st1 := [.ref 211]) (M1 := mjTo Z113) rfl ?_
          refine pG_getR (ci := 12) (f := 57) (b := 241) rfl rfl rfl (by rfl) rfl ?_
          refine pG_many 3 (pc1 := 32) (L1 := [some (.ref 211), some (.int x1), some (.int x2)]) (st1 := [.int x2, .ref 211, .int x2, .ref 241]) (M1 := mjTo Z113) rfl ?_
          cases hq114 : f246_timeOf x2 Z113 with
          | none => rw [hq114] at h; cases h
          | some v115 =>
            rw [hq114, mjBp_some] at h
            refine pG_callV (k2 := 246) (As := [.ref 211, .int x2]) (rest := [.int x2, .ref 241]) rfl rfl rfl rfl rfl (by rfl) (by decide) (f246_timeOf_ok hq114) ?_
            rintro r9 M9 ⟨rfl, rfl⟩
            show pG 308 35 [some (.ref 211), some (.int x1), some (.int x2)] [.int v115, .int x2, .ref 241] (mjTo Z113) _
            refine pG_ias rfl (by rfl) hk111 (?_ : pG 308 36 [some (.ref 211), some (.int x1), some (.int x2)] [] (mjTo (zSi Z113 241 (mjIx x2) v115)) _)
            rw [mjLet] at h
            generalize zSi Z113 241 (mjIx x2) v115 = Z117 at h ⊢
            refine pG_many 2 (pc1 := 6) (L1 := [some (.ref 211), some (.int x1), some (.int (x2 + 1))]) (st1 := []) (M1 := mjTo Z117) rfl ?_
            exact f308_resultAt_h6_ok n x1 (x2 + 1) Z117 v9 Z9 h
def f308_resultAt (p0 : Int32) (Z : mjZt) : Option (Int32 × mjZt) :=
  mjBd (f302_laysStruck  Z) fun _ Z103 =>
  f308_resultAt_h6 mjF p0 0 Z103
set_option maxRecDepth 4000 in
theorem f308_resultAt_ok {p0 : Int32} {Z : mjZt} {v9 : Int32} {Z9 : mjZt} (h : f308_resultAt p0 Z = some (v9, Z9)) : pG 308 0 (mjEnt [.ref 211, .int p0] (mjML 308)) [] (mjTo Z) (fun r M1 => r = some (.int v9) ∧ M1 = mjTo Z9) := by
  unfold f308_resultAt at h
  show pG 308 0 [some (.ref 211), some (.int p0), none] [] (mjTo Z) _
  refine pG_many 1 (pc1 := 1) (L1 := [some (.ref 211), some (.int p0), none]) (st1 := [.ref 211]) (M1 := mjTo Z) rfl ?_
  cases hq101 : f302_laysStruck  Z with
  | none => rw [hq101] at h; cases h
  | some w =>
    obtain ⟨v102, Z103⟩ := w
    rw [hq101, mjBd_some] at h
    refine pG_callV (k2 := 302) (As := [.ref 211]) (rest := []) rfl rfl rfl rfl rfl (by rfl) (by decide) (f302_laysStruck_ok hq101) ?_
    rintro r9 M9 ⟨rfl, rfl⟩
    show pG 308 4 [some (.ref 211), some (.int p0), none] [] (mjTo Z103) _
    refine pG_many 2 (pc1 := 6) (L1 := [some (.ref 211), some (.int p0), some (.int 0)]) (st1 := []) (M1 := mjTo Z103) rfl ?_
    exact f308_resultAt_h6_ok mjF p0 0 Z103 v9 Z9 h
def f309_margin (p0 : Int32) (Z : mjZt) : Option (Int32 × mjZt) :=
  if mjCmp .ge p0 1 = true then
    mjBd (f308_resultAt p0 Z) fun v103 Z104 =>
    if mjCmp .ne v103 ((-1)) = true then
      mjBp (f246_timeOf v103 Z104) fun v107 =>
      mjBd (f308_resultAt (p0 - 1) Z104) fun v110 Z111 =>
      mjBp (f246_timeOf v110 Z111) fun v113 =>
      some (v107 - v113, Z111)
    else
      some ((-1), Z104)
  else
    some ((-1), Z)
set_option maxRecDepth 4000 in
theorem f309_margin_ok {p0 : Int32} {Z : mjZt} {v9 : Int32} {Z9 : mjZt} (h : f309_margin p0 Z = some (v9, Z9)) : pG 309 0 (mjEnt [.ref 211, .int p0] (mjML 309)) [] (mjTo Z) (fun r M1 => r = some (.int v9) ∧ M1 = mjTo Z9) := by
  unfold f309_margin at h
  show pG 309 0 [some (.ref 211), some (.int p0), none] [] (mjTo Z) _
  refine pG_many 2 (pc1 := 2) (L1 := [some (.ref 211), some (.int p0), none]) (st1 := [.int 1, .int p0]) (M1 := mjTo Z) rfl ?_
  by_cases hc101 : mjCmp .ge p0 1 = true
  · rw [if_pos hc101] at h
    refine pG_cmt (t := 7) rfl rfl hc101 ?_
    refine pG_many 2 (pc1 := 9) (L1 := [some (.ref 211), some (.int p0), none]) (st1 := [.int p0, .ref 211]) (M1 := mjTo Z) rfl ?_
    cases hq102 : f308_resultAt p0 Z with
    | none => rw [hq102] at h; cases h
    | some w =>
      obtain ⟨v103, Z104⟩ := w
      rw [hq102, mjBd_some] at h
      refine pG_callV (k2 := 308) (As := [.ref 211, .int p0]) (rest := []) rfl rfl rfl rfl rfl (by rfl) (by decide) (f308_resultAt_ok hq102) ?_
      rintro r9 M9 ⟨rfl, rfl⟩
      show pG 309 12 [some (.ref 211), some (.int p0), none] [.int v103] (mjTo Z104) _
      refine pG_many 3 (pc1 := 15) (L1 := [some (.ref 211), some (.int p0), some (.int v103)]) (st1 := [.int ((-1)), .int v103]) (M1 := mjTo Z104) rfl ?_
      by_cases hc105 : mjCmp .ne v103 ((-1)) = true
      · rw [if_pos hc105] at h
        refine pG_cmt (t := 22) rfl rfl hc105 ?_
        refine pG_many 2 (pc1 := 24) (L1 := [some (.ref 211), some (.int p0), some (.int v103)]) (st1 := [.int v103, .ref 211]) (M1 := mjTo Z104) rfl ?_
        cases hq106 : f246_timeOf v103 Z104 with
        | none => rw [hq106] at h; cases h
        | some v107 =>
          rw [hq106, mjBp_some] at h
          refine pG_callV (k2 := 246) (As := [.ref 211, .int v103]) (rest := []) rfl rfl rfl rfl rfl (by rfl) (by decide) (f246_timeOf_ok hq106) ?_
          rintro r9 M9 ⟨rfl, rfl⟩
          show pG 309 27 [some (.ref 211), some (.int p0), some (.int v103)] [.int v107] (mjTo Z104) _
          refine pG_many 5 (pc1 := 32) (L1 := [some (.ref 211), some (.int p0), some (.int v103)]) (st1 := [.int (p0 - 1), .ref 211, .ref 211, .int v107]) (M1 := mjTo Z104) rfl ?_
          cases hq109 : f308_resultAt (p0 - 1) Z104 with
          | none => rw [hq109] at h; cases h
          | some w =>
            obtain ⟨v110, Z111⟩ := w
            rw [hq109, mjBd_some] at h
            refine pG_callV (k2 := 308) (As := [.ref 211, .int (p0 - 1)]) (rest := [.ref 211, .int v107]) rfl rfl rfl rfl rfl (by rfl) (by decide) (f308_resultAt_ok hq109) ?_
            rintro r9 M9 ⟨rfl, rfl⟩
            show pG 309 35 [some (.ref 211), some (.int p0), some (.int v103)] [.int v110, .ref 211, .int v107] (mjTo Z111) _
            cases hq112 : f246_timeOf v110 Z111 with
            | none => rw [hq112] at h; cases h
            | some v113 =>
              rw [hq112, mjBp_some] at h
              refine pG_callV (k2 := 246) (As := [.ref 211, .int v110]) (rest := [.int v107]) rfl rfl rfl rfl rfl (by rfl) (by decide) (f246_timeOf_ok hq112) ?_
              rintro r9 M9 ⟨rfl, rfl⟩
              show pG 309 38 [some (.ref 211), some (.int p0), some (.int v103)] [.int v113, .int v107] (mjTo Z111) _
              refine pG_many 1 (pc1 := 39) (L1 := [some (.ref 211), some (.int p0), some (.int v103)]) (st1 := [.int (v107 - v113)]) (M1 := mjTo Z111) rfl ?_
              simp only [Option.some.injEq, Prod.mk.injEq] at h
              obtain ⟨rfl, rfl⟩ := h
              exact pG_ret (r := some (.int (v107 - v113))) rfl ⟨rfl, rfl⟩
      · rw [if_neg hc105] at h
        refine pG_cmf (t := 22) rfl rfl hc105 ?_
        refine pG_many 2 (pc1 := 39) (L1 := [some (.ref 211), some (.int p0), some (.int v103)]) (st1 := [.int ((-1))]) (M1 := mjTo Z104) rfl ?_
        simp only [Option.some.injEq, Prod.mk.injEq] at h
        obtain ⟨rfl, rfl⟩ := h
        exact pG_ret (r := some (.int ((-1)))) rfl ⟨rfl, rfl⟩
  · rw [if_neg hc101] at h
    refine pG_cmf (t := 7) rfl rfl hc101 ?_
    refine pG_many 1 (pc1 := 6) (L1 := [some (.ref 211), some (.int p0), none]) (st1 := [.int ((-1))]) (M1 := mjTo Z) rfl ?_
    simp only [Option.some.injEq, Prod.mk.injEq] at h
    obtain ⟨rfl, rfl⟩ := h
    exact pG_ret (r := some (.int ((-1)))) rfl ⟨rfl, rfl⟩
def f310_impeders_h18 : Nat → Int32 → Int32 → Int32 → mjZt → Option (Int32 × mjZt)
  | 0, _, _, _, _ => none
  | n + 1, x1, x2, x3, Z =>
    if mjCmp .ge x3 (Z.1 211 40) = true then
      some (x2, Z)
    else
      if mjIn x3 48 = true then
      if mjCmp .eq (Z.1 247 (mjIx x3)) 0 = true then
        f310_impeders_h18 n x1 x2 (x3 + 1) Z
      else
        mjBp (f273_kindOf x3 Z) fun v112 =>
        if mjCmp .ne v112 3 = true then
          f310_impeders_h18 n x1 x2 (x3 + 1) Z
        else
          mjBp (f275_otherOf x3 Z) fun v116 =>
          if mjCmp .ne v116 x1 = true then
            f310_impeders_h18 n x1 x2 (x3 + 1) Z
          else
            mjBp (f274_teamOf x3 Z) fun v120 =>
            f310_impeders_h18 n x1 (x2 ||| ((1 : Int32) <<< ((v120 : Int32) &&& 31))) (x3 + 1) Z
      else none
set_option maxRecDepth 4000 in
theorem f310_impeders_h18_ok : ∀ (n : Nat) (x1 : Int32) (x2 : Int32) (x3 : Int32) (Z : mjZt) (v9 : Int32) (Z9 : mjZt), f310_impeders_h18 n x1 x2 x3 Z = some (v9, Z9) → pG 310 18 [some (.ref 211), some (.int x1), some (.int x2), some (.int x3)] [] (mjTo Z) (fun r M1 => r = some (.int v9) ∧ M1 = mjTo Z9)
  | 0, x1, x2, x3, Z, v9, Z9, h => by rw [f310_impeders_h18] at h; cases h
  | n + 1, x1, x2, x3, Z, v9, Z9, h => by
      rw [f310_impeders_h18] at h
      refine pG_many 2 (pc1 := 20) (L1 := [some (.ref 211), some (.int x1), some (.int x2), some (.int x3)]) (st1 := [.ref 211, .int x3]) (M1 := mjTo Z) rfl ?_
      refine pG_getI (ci := 12) (f := 40) rfl rfl (Or.inl rfl) (by rfl) ?_
      by_cases hc108 : mjCmp .ge x3 (Z.1 211 40) = true
      · rw [if_pos hc108] at h
        refine pG_cmt (t := 69) rfl rfl hc108 ?_
        refine pG_many 1 (pc1 := 70) (L1 := [some (.ref 211), some (.int x1), some (.int x2), some (.int x3)]) (st1 := [.int x2]) (M1 := mjTo Z) rfl ?_
        simp only [Option.some.injEq, Prod.mk.injEq] at h
        obtain ⟨rfl, rfl⟩ := h
        exact pG_ret (r := some (.int x2)) rfl ⟨rfl, rfl⟩
      · rw [if_neg hc108] at h
        refine pG_cmf (t := 69) rfl rfl hc108 ?_
        refine pG_many 1 (pc1 := 27) (L1 := [some (.ref 211), some (.int x1), some (.int x2), some (.int x3)]) (st1 := [.ref 211]) (M1 := mjTo Z) rfl ?_
        refine pG_getR (ci := 12) (f := 68) (b := 247) rfl rfl rfl (by rfl) rfl ?_
        refine pG_many 1 (pc1 := 31) (L1 := [some (.ref 211), some (.int x1), some (.int x2), some (.int x3)]) (st1 := [.int x3, .ref 247]) (M1 := mjTo Z) rfl ?_
        have hk109 : mjIn x3 48 = true := by
          by_cases q9 : mjIn x3 48 = true
          · exact q9
          · rw [if_neg q9] at h; cases h
        rw [if_pos hk109] at h
        refine pG_bal rfl (by rfl) hk109 ?_
        by_cases hc110 : mjCmp .eq (Z.1 247 (mjIx x3)) 0 = true
        · rw [if_pos hc110] at h
          refine pG_ift (t := 63) rfl rfl hc110 ?_
          refine pG_many 2 (pc1 := 18) (L1 := [some (.ref 211), some (.int x1), some (.int x2), some (.int (x3 + 1))]) (st1 := []) (M1 := mjTo Z) rfl ?_
          exact f310_impeders_h18_ok n x1 x2 (x3 + 1) Z v9 Z9 h
        · rw [if_neg hc110] at h
          refine pG_iff (t := 63) rfl rfl hc110 ?_
          refine pG_many 2 (pc1 := 37) (L1 := [some (.ref 211), some (.int x1), some (.int x2), some (.int x3)]) (st1 := [.int x3, .ref 211]) (M1 := mjTo Z) rfl ?_
          cases hq111 : f273_kindOf x3 Z with
          | none => rw [hq111] at h; cases h
          | some v112 =>
            rw [hq111, mjBp_some] at h
            refine pG_callV (k2 := 273) (As := [.ref 211, .int x3]) (rest := []) rfl rfl rfl rfl rfl (by rfl) (by decide) (f273_kindOf_ok hq111) ?_
            rintro r9 M9 ⟨rfl, rfl⟩
            show pG 310 40 [some (.ref 211), some (.int x1), some (.int x2), some (.int x3)] [.int v112] (mjTo Z) _
            refine pG_many 1 (pc1 := 41) (L1 := [some (.ref 211), some (.int x1), some (.int x2), some (.int x3)]) (st1 := [.int 3, .int v112]) (M1 := mjTo Z) rfl ?_
            by_cases hc114 : mjCmp .ne v112 3 = true
            · rw [if_pos hc114] at h
              refine pG_cmt (t := 63) rfl rfl hc114 ?_
              refine pG_many 2 (pc1 := 18) (L1 := [some (.ref 211), some (.int x1), some (.int x2), some (.int (x3 + 1))]) (st1 := []) (M1 := mjTo Z) rfl ?_
              exact f310_impeders_h18_ok n x1 x2 (x3 + 1) Z v9 Z9 h
            · rw [if_neg hc114] at h
              refine pG_cmf (t := 63) rfl rfl hc114 ?_
              refine pG_many 2 (pc1 := 46) (L1 := [some (.ref 211), some (.int x1), some (.int x2), some (.int x3)]) (st1 := [.int x3, .ref 211]) (M1 := mjTo Z) rfl ?_
              cases hq115 : f275_otherOf x3 Z with
              | none => rw [hq115] at h; cases h
              | some v116 =>
                rw [hq115, mjBp_some] at h
                refine pG_callV (k2 := 275) (As := [.ref 211, .int x3]) (rest := []) rfl rfl rfl rfl rfl (by rfl) (by decide) (f275_otherOf_ok hq115) ?_
                rintro r9 M9 ⟨rfl, rfl⟩
                show pG 310 49 [some (.ref 211), some (.int x1), some (.int x2), some (.int x3)] [.int v116] (mjTo Z) _
                refine pG_many 1 (pc1 := 50) (L1 := [some (.ref 211), some (.int x1), some (.int x2), some (.int x3)]) (st1 := [.int x1, .int v116]) (M1 := mjTo Z) rfl ?_
                by_cases hc118 : mjCmp .ne v116 x1 = true
                · rw [if_pos hc118] at h
                  refine pG_cmt (t := 63) rfl rfl hc118 ?_
                  refine pG_many 2 (pc1 := 18) (L1 := [some (.ref 211), some (.int x1), some (.int x2), some (.int (x3 + 1))]) (st1 := []) (M1 := mjTo Z) rfl ?_
                  exact f310_impeders_h18_ok n x1 x2 (x3 + 1) Z v9 Z9 h
                · rw [if_neg hc118] at h
                  refine pG_cmf (t := 63) rfl rfl hc118 ?_
                  refine pG_many 4 (pc1 := 57) (L1 := [some (.ref 211), some (.int x1), some (.int x2), some (.int x3)]) (st1 := [.int x3, .ref 211, .int 1, .int x2]) (M1 := mjTo Z) rfl ?_
                  cases hq119 : f274_teamOf x3 Z with
                  | none => rw [hq119] at h; cases h
                  | some v120 =>
                    rw [hq119, mjBp_some] at h
                    refine pG_callV (k2 := 274) (As := [.ref 211, .int x3]) (rest := [.int 1, .int x2]) rfl rfl rfl rfl rfl (by rfl) (by decide) (f274_teamOf_ok hq119) ?_
                    rintro r9 M9 ⟨rfl, rfl⟩
                    show pG 310 60 [some (.ref 211), some (.int x1), some (.int x2), some (.int x3)] [.int v120, .int 1, .int x2] (mjTo Z) _
                    refine pG_many 5 (pc1 := 18) (L1 := [some (.ref 211), some (.int x1), some (.int (x2 ||| ((1 : Int32) <<< ((v120 : Int32) &&& 31)))), some (.int (x3 + 1))]) (st1 := []) (M1 := mjTo Z) rfl ?_
                    exact f310_impeders_h18_ok n x1 (x2 ||| ((1 : Int32) <<< ((v120 : Int32) &&& 31))) (x3 + 1) Z v9 Z9 h
def f310_impeders (p0 : Int32) (Z : mjZt) : Option (Int32 × mjZt) :=
  mjBp (f240_isTeam p0 Z) fun v102 =>
  if mjCmp .ne v102 0 = true then
    mjBd (f302_laysStruck  Z) fun _ Z107 =>
    f310_impeders_h18 mjF p0 0 0 Z107
  else
    some ((-1), Z)
set_option maxRecDepth 4000 in
theorem f310_impeders_ok {p0 : Int32} {Z : mjZt} {v9 : Int32} {Z9 : mjZt} (h : f310_impeders p0 Z = some (v9, Z9)) : pG 310 0 (mjEnt [.ref 211, .int p0] (mjML 310)) [] (mjTo Z) (fun r M1 => r = some (.int v9) ∧ M1 = mjTo Z9) := by
  unfold f310_impeders at h
  show pG 310 0 [some (.ref 211), some (.int p0), none, none] [] (mjTo Z) _
  refine pG_many 2 (pc1 := 2) (L1 := [some (.ref 211), some (.int p0), none, none]) (st1 := [.int p0, .ref 211]) (M1 := mjTo Z) rfl ?_
  cases hq101 : f240_isTeam p0 Z with
  | none => rw [hq101] at h; cases h
  | some v102 =>
    rw [hq101, mjBp_some] at h
    refine pG_callV (k2 := 240) (As := [.ref 211, .int p0]) (rest := []) rfl rfl rfl rfl rfl (by rfl) (by decide) (f240_isTeam_ok hq101) ?_
    rintro r9 M9 ⟨rfl, rfl⟩
    show pG 310 5 [some (.ref 211), some (.int p0), none, none] [.int v102] (mjTo Z) _
    by_cases hc104 : mjCmp .ne v102 0 = true
    · rw [if_pos hc104] at h
      refine pG_ift (t := 10) rfl rfl hc104 ?_
      refine pG_many 1 (pc1 := 11) (L1 := [some (.ref 211), some (.int p0), none, none]) (st1 := [.ref 211]) (M1 := mjTo Z) rfl ?_
      cases hq105 : f302_laysStruck  Z with
      | none => rw [hq105] at h; cases h
      | some w =>
        obtain ⟨v106, Z107⟩ := w
        rw [hq105, mjBd_some] at h
        refine pG_callV (k2 := 302) (As := [.ref 211]) (rest := []) rfl rfl rfl rfl rfl (by rfl) (by decide) (f302_laysStruck_ok hq105) ?_
        rintro r9 M9 ⟨rfl, rfl⟩
        show pG 310 14 [some (.ref 211), some (.int p0), none, none] [] (mjTo Z107) _
        refine pG_many 4 (pc1 := 18) (L1 := [some (.ref 211), some (.int p0), some (.int 0), some (.int 0)]) (st1 := []) (M1 := mjTo Z107) rfl ?_
        exact f310_impeders_h18_ok mjF p0 0 0 Z107 v9 Z9 h
    · rw [if_neg hc104] at h
      refine pG_iff (t := 10) rfl rfl hc104 ?_
      refine pG_many 1 (pc1 := 9) (L1 := [some (.ref 211), some (.int p0), none, none]) (st1 := [.int ((-1))]) (M1 := mjTo Z) rfl ?_
      simp only [Option.some.injEq, Prod.mk.injEq] at h
      obtain ⟨rfl, rfl⟩ := h
      exact pG_ret (r := some (.int ((-1)))) rfl ⟨rfl, rfl⟩
def f311_result (p0 : Int32) (Z : mjZt) : Option (Int32 × mjZt) :=
  mjBd (f308_resultAt p0 Z) fun v102 Z103 =>
  some (v102, Z103)
set_option maxRecDepth 4000 in
theorem f311_result_ok {p0 : Int32} {Z : mjZt} {v9 : Int32} {Z9 : mjZt} (h : f311_result p0 Z = some (v9, Z9)) : pG 311 0 (mjEnt [.ref 211, .int p0] (mjML 311)) [] (mjTo Z) (fun r M1 => r = some (.int v9) ∧ M1 = mjTo Z9) := by
  unfold f311_result at h
  show pG 311 0 [some (.ref 211), some (.int p0)] [] (mjTo Z) _
  refine pG_many 2 (pc1 := 2) (L1 := [some (.ref 211), some (.int p0)]) (st1 := [.int p0, .ref 211]) (M1 := mjTo Z) rfl ?_
  cases hq101 : f308_resultAt p0 Z with
  | none => rw [hq101] at h; cases h
  | some w =>
    obtain ⟨v102, Z103⟩ := w
    rw [hq101, mjBd_some] at h
    refine pG_callV (k2 := 308) (As := [.ref 211, .int p0]) (rest := []) rfl rfl rfl rfl rfl (by rfl) (by decide) (f308_resultAt_ok hq101) ?_
    rintro r9 M9 ⟨rfl, rfl⟩
    show pG 311 5 [some (.ref 211), some (.int p0)] [.int v102] (mjTo Z103) _
    simp only [Option.some.injEq, Prod.mk.injEq] at h
    obtain ⟨rfl, rfl⟩ := h
    exact pG_ret (r := some (.int v102)) rfl ⟨rfl, rfl⟩
def f312_isThrough (p0 : Int32) (Z : mjZt) : Option Int32 :=
  mjBp (f304_isInResult p0 Z) fun v102 =>
  if mjCmp .eq v102 0 = true then
    some 0
  else
    mjBp (f305_rankOf p0 Z) fun v106 =>
    if mjCmp .gt v106 (Z.1 211 42) = true then
      some 0
    else
      some 1
set_option maxRecDepth 4000 in
theorem f312_isThrough_ok {p0 : Int32} {Z : mjZt} {v9 : Int32} (h : f312_isThrough p0 Z = some v9) : pG 312 0 (mjEnt [.ref 211, .int p0] (mjML 312)) [] (mjTo Z) (fun r M1 => r = some (.int v9) ∧ M1 = mjTo Z) := by
  unfold f312_isThrough at h
  show pG 312 0 [some (.ref 211), some (.int p0)] [] (mjTo Z) _
  refine pG_many 2 (pc1 := 2) (L1 := [some (.ref 211), some (.int p0)]) (st1 := [.int p0, .ref 211]) (M1 := mjTo Z) rfl ?_
  cases hq101 : f304_isInResult p0 Z with
  | none => rw [hq101] at h; cases h
  | some v102 =>
    rw [hq101, mjBp_some] at h
    refine pG_callV (k2 := 304) (As := [.ref 211, .int p0]) (rest := []) rfl rfl rfl rfl rfl (by rfl) (by decide) (f304_isInResult_ok hq101) ?_
    rintro r9 M9 ⟨rfl, rfl⟩
    show pG 312 5 [some (.ref 211), some (.int p0)] [.int v102] (mjTo Z) _
    by_cases hc104 : mjCmp .eq v102 0 = true
    · rw [if_pos hc104] at h
      refine pG_ift (t := 24) rfl rfl hc104 ?_
      refine pG_many 1 (pc1 := 25) (L1 := [some (.ref 211), some (.int p0)]) (st1 := [.int 0]) (M1 := mjTo Z) rfl ?_
      simp only [Option.some.injEq] at h
      subst h
      exact pG_ret (r := some (.int 0)) rfl ⟨rfl, rfl⟩
    · rw [if_neg hc104] at h
      refine pG_iff (t := 24) rfl rfl hc104 ?_
      refine pG_many 2 (pc1 := 10) (L1 := [some (.ref 211), some (.int p0)]) (st1 := [.int p0, .ref 211]) (M1 := mjTo Z) rfl ?_
      cases hq105 : f305_rankOf p0 Z with
      | none => rw [hq105] at h; cases h
      | some v106 =>
        rw [hq105, mjBp_some] at h
        refine pG_callV (k2 := 305) (As := [.ref 211, .int p0]) (rest := []) rfl rfl rfl rfl rfl (by rfl) (by decide) (f305_rankOf_ok hq105) ?_
        rintro r9 M9 ⟨rfl, rfl⟩
        show pG 312 13 [some (.ref 211), some (.int p0)] [.int v106] (mjTo Z) _
        refine pG_many 1 (pc1 := 14) (L1 := [some (.ref 211), some (.int p0)]) (st1 := [.ref 211, .int v106]) (M1 := mjTo Z) rfl ?_
        refine pG_getI (ci := 12) (f := 42) rfl rfl (Or.inl rfl) (by rfl) ?_
        by_cases hc108 : mjCmp .gt v106 (Z.1 211 42) = true
        · rw [if_pos hc108] at h
          refine pG_cmt (t := 24) rfl rfl hc108 ?_
          refine pG_many 1 (pc1 := 25) (L1 := [some (.ref 211), some (.int p0)]) (st1 := [.int 0]) (M1 := mjTo Z) rfl ?_
          simp only [Option.some.injEq] at h
          subst h
          exact pG_ret (r := some (.int 0)) rfl ⟨rfl, rfl⟩
        · rw [if_neg hc108] at h
          refine pG_cmf (t := 24) rfl rfl hc108 ?_
          refine pG_many 2 (pc1 := 25) (L1 := [some (.ref 211), some (.int p0)]) (st1 := [.int 1]) (M1 := mjTo Z) rfl ?_
          simp only [Option.some.injEq] at h
          subst h
          exact pG_ret (r := some (.int 1)) rfl ⟨rfl, rfl⟩
def f313_besides_h45 : Nat → Int32 → Int32 → Int32 → mjZt → Option Int32
  | 0, _, _, _, _ => none
  | n + 1, x1, x2, x3, Z =>
    if mjCmp .ge x3 (Z.1 211 39) = true then
      some x2
    else
      mjBp (f304_isInResult x3 Z) fun v104 =>
      if mjCmp .eq v104 0 = true then
        mjBp (f196_truth 0 Z) fun v108 =>
        f313_besides_h45 n x1 (x2 ||| ((v108 : Int32) <<< ((x3 : Int32) &&& 31))) (x3 + 1) Z
      else
        if mjIn x3 6 = true then
        if mjCmp .eq (Z.1 249 (mjIx x3)) 0 = true then
          mjBp (f196_truth 0 Z) fun v113 =>
          f313_besides_h45 n x1 (x2 ||| ((v113 : Int32) <<< ((x3 : Int32) &&& 31))) (x3 + 1) Z
        else
          mjBp (f312_isThrough x3 Z) fun v116 =>
          if mjCmp .ne v116 0 = true then
            mjBp (f196_truth 0 Z) fun v120 =>
            f313_besides_h45 n x1 (x2 ||| ((v120 : Int32) <<< ((x3 : Int32) &&& 31))) (x3 + 1) Z
          else
            if mjCmp .gt (Z.1 250 (mjIx x3)) (x1 + (Z.1 211 43)) = true then
              mjBp (f196_truth 0 Z) fun v124 =>
              f313_besides_h45 n x1 (x2 ||| ((v124 : Int32) <<< ((x3 : Int32) &&& 31))) (x3 + 1) Z
            else
              mjBp (f196_truth 1 Z) fun v127 =>
              f313_besides_h45 n x1 (x2 ||| ((v127 : Int32) <<< ((x3 : Int32) &&& 31))) (x3 + 1) Z
        else none
set_option maxRecDepth 4000 in
theorem f313_besides_h45_ok : ∀ (n : Nat) (x1 : Int32) (x2 : Int32) (x3 : Int32) (Z : mjZt) (v9 : Int32), f313_besides_h45 n x1 x2 x3 Z = some v9 → pG 313 45 [some (.ref 211), some (.int x1), some (.int x2), some (.int x3)] [] (mjTo Z) (fun r M1 => r = some (.int v9) ∧ M1 = mjTo Z)
  | 0, x1, x2, x3, Z, v9, h => by rw [f313_besides_h45] at h; cases h
  | n + 1, x1, x2, x3, Z, v9, h => by
      rw [f313_besides_h45] at h
      refine pG_many 2 (pc1 := 47) (L1 := [some (.ref 211), some (.int x1), some (.int x2), some (.int x3)]) (st1 := [.ref 211, .int x3]) (M1 := mjTo Z) rfl ?_
      refine pG_getI (ci := 12) (f := 39) rfl rfl (Or.inl rfl) (by rfl) ?_
      by_cases hc102 : mjCmp .ge x3 (Z.1 211 39) = true
      · rw [if_pos hc102] at h
        refine pG_cmt (t := 112) rfl rfl hc102 ?_
        refine pG_many 1 (pc1 := 113) (L1 := [some (.ref 211), some (.int x1), some (.int x2), some (.int x3)]) (st1 := [.int x2]) (M1 := mjTo Z) rfl ?_
        simp only [Option.some.injEq] at h
        subst h
        exact pG_ret (r := some (.int x2)) rfl ⟨rfl, rfl⟩
      · rw [if_neg hc102] at h
        refine pG_cmf (t := 112) rfl rfl hc102 ?_
        refine pG_many 3 (pc1 := 56) (L1 := [some (.ref 211), some (.int x1), some (.int x2), some (.int x3)]) (st1 := [.int x3, .ref 211, .int x2]) (M1 := mjTo Z) rfl ?_
        cases hq103 : f304_isInResult x3 Z with
        | none => rw [hq103] at h; cases h
        | some v104 =>
          rw [hq103, mjBp_some] at h
          refine pG_callV (k2 := 304) (As := [.ref 211, .int x3]) (rest := [.int x2]) rfl rfl rfl rfl rfl (by rfl) (by decide) (f304_isInResult_ok hq103) ?_
          rintro r9 M9 ⟨rfl, rfl⟩
          show pG 313 59 [some (.ref 211), some (.int x1), some (.int x2), some (.int x3)] [.int v104, .int x2] (mjTo Z) _
          by_cases hc106 : mjCmp .eq v104 0 = true
          · rw [if_pos hc106] at h
            refine pG_ift (t := 98) rfl rfl hc106 ?_
            refine pG_many 1 (pc1 := 99) (L1 := [some (.ref 211), some (.int x1), some (.int x2), some (.int x3)]) (st1 := [.int 0, .int x2]) (M1 := mjTo Z) rfl ?_
            cases hq107 : f196_truth 0 Z with
            | none => rw [hq107] at h; cases h
            | some v108 =>
              rw [hq107, mjBp_some] at h
              refine pG_call (k2 := 196) (As := [.int 0]) (rest := [.int x2]) rfl (by decide) (f196_truth_ok hq107) ?_
              rintro r9 M9 ⟨rfl, rfl⟩
              show pG 313 102 [some (.ref 211), some (.int x1), some (.int x2), some (.int x3)] [.int v108, .int x2] (mjTo Z) _
              refine pG_many 6 (pc1 := 45) (L1 := [some (.ref 211), some (.int x1), some (.int (x2 ||| ((v108 : Int32) <<< ((x3 : Int32) &&& 31)))), some (.int (x3 + 1))]) (st1 := []) (M1 := mjTo Z) rfl ?_
              exact f313_besides_h45_ok n x1 (x2 ||| ((v108 : Int32) <<< ((x3 : Int32) &&& 31))) (x3 + 1) Z v9 h
          · rw [if_neg hc106] at h
            refine pG_iff (t := 98) rfl rfl hc106 ?_
            refine pG_many 1 (pc1 := 63) (L1 := [some (.ref 211), some (.int x1), some (.int x2), some (.int x3)]) (st1 := [.ref 211, .int x2]) (M1 := mjTo Z) rfl ?_
            refine pG_getR (ci := 12) (f := 70) (b := 249) rfl rfl rfl (by rfl) rfl ?_
            refine pG_many 1 (pc1 := 67) (L1 := [some (.ref 211), some (.int x1), some (.int x2), some (.int x3)]) (st1 := [.int x3, .ref 249, .int x2]) (M1 := mjTo Z) rfl ?_
            have hk110 : mjIn x3 6 = true := by
              by_cases q9 : mjIn x3 6 = true
              · exact q9
              · rw [if_neg q9] at h; cases h
            rw [if_pos hk110] at h
            refine pG_bal rfl (by rfl) hk110 ?_
            by_cases hc111 : mjCmp .eq (Z.1 249 (mjIx x3)) 0 = true
            · rw [if_pos hc111] at h
              refine pG_ift (t := 98) rfl rfl hc111 ?_
              refine pG_many 1 (pc1 := 99) (L1 := [some (.ref 211), some (.int x1), some (.int x2), some (.int x3)]) (st1 := [.int 0, .int x2]) (M1 := mjTo Z) rfl ?_
              cases hq112 : f196_truth 0 Z with
              | none => rw [hq112] at h; cases h
              | some v113 =>
                rw [hq112, mjBp_some] at h
                refine pG_call (k2 := 196) (As := [.int 0]) (rest := [.int x2]) rfl (by decide) (f196_truth_ok hq112) ?_
                rintro r9 M9 ⟨rfl, rfl⟩
                show pG 313 102 [some (.ref 211), some (.int x1), some (.int x2), some (.int x3)] [.int v113, .int x2] (mjTo Z) _
                refine pG_many 6 (pc1 := 45) (L1 := [some (.ref 211), some (.int x1), some (.int (x2 ||| ((v113 : Int32) <<< ((x3 : Int32) &&& 31)))), some (.int (x3 + 1))]) (st1 := []) (M1 := mjTo Z) rfl ?_
                exact f313_besides_h45_ok n x1 (x2 ||| ((v113 : Int32) <<< ((x3 : Int32) &&& 31))) (x3 + 1) Z v9 h
            · rw [if_neg hc111] at h
              refine pG_iff (t := 98) rfl rfl hc111 ?_
              refine pG_many 2 (pc1 := 73) (L1 := [some (.ref 211), some (.int x1), some (.int x2), some (.int x3)]) (st1 := [.int x3, .ref 211, .int x2]) (M1 := mjTo Z) rfl ?_
              cases hq115 : f312_isThrough x3 Z with
              | none => rw [hq115] at h; cases h
              | some v116 =>
                rw [hq115, mjBp_some] at h
                refine pG_callV (k2 := 312) (As := [.ref 211, .int x3]) (rest := [.int x2]) rfl rfl rfl rfl rfl (by rfl) (by decide) (f312_isThrough_ok hq115) ?_
                rintro r9 M9 ⟨rfl, rfl⟩
                show pG 313 76 [some (.ref 211), some (.int x1), some (.int x2), some (.int x3)] [.int v116, .int x2] (mjTo Z) _
                by_cases hc118 : mjCmp .ne v116 0 = true
                · rw [if_pos hc118] at h
                  refine pG_ift (t := 98) rfl rfl hc118 ?_
                  refine pG_many 1 (pc1 := 99) (L1 := [some (.ref 211), some (.int x1), some (.int x2), some (.int x3)]) (st1 := [.int 0, .int x2]) (M1 := mjTo Z) rfl ?_
                  cases hq119 : f196_truth 0 Z with
                  | none => rw [hq119] at h; cases h
                  | some v120 =>
                    rw [hq119, mjBp_some] at h
                    refine pG_call (k2 := 196) (As := [.int 0]) (rest := [.int x2]) rfl (by decide) (f196_truth_ok hq119) ?_
                    rintro r9 M9 ⟨rfl, rfl⟩
                    show pG 313 102 [some (.ref 211), some (.int x1), some (.int x2), some (.int x3)] [.int v120, .int x2] (mjTo Z) _
                    refine pG_many 6 (pc1 := 45) (L1 := [some (.ref 211), some (.int x1), some (.int (x2 ||| ((v120 : Int32) <<< ((x3 : Int32) &&& 31)))), some (.int (x3 + 1))]) (st1 := []) (M1 := mjTo Z) rfl ?_
                    exact f313_besides_h45_ok n x1 (x2 ||| ((v120 : Int32) <<< ((x3 : Int32) &&& 31))) (x3 + 1) Z v9 h
                · rw [if_neg hc118] at h
                  refine pG_iff (t := 98) rfl rfl hc118 ?_
                  refine pG_many 1 (pc1 := 80) (L1 := [some (.ref 211), some (.int x1), some (.int x2), some (.int x3)]) (st1 := [.ref 211, .int x2]) (M1 := mjTo Z) rfl ?_
                  refine pG_getR (ci := 12) (f := 71) (b := 250) rfl rfl rfl (by rfl) rfl ?_
                  refine pG_many 1 (pc1 := 84) (L1 := [some (.ref 211), some (.int x1), some (.int x2), some (.int x3)]) (st1 := [.int x3, .ref 250, .int x2]) (M1 := mjTo Z) rfl ?_
                  refine pG_ial rfl (by rfl) hk110 ?_
                  refine pG_many 2 (pc1 := 87) (L1 := [some (.ref 211), some (.int x1), some (.int x2), some (.int x3)]) (st1 := [.ref 211, .int x1, .int (Z.1 250 (mjIx x3)), .int x2]) (M1 := mjTo Z) rfl ?_
                  refine pG_getI (ci := 12) (f := 43) rfl rfl (Or.inl rfl) (by rfl) ?_
                  refine pG_many 1 (pc1 := 91) (L1 := [some (.ref 211), some (.int x1), some (.int x2), some (.int x3)]) (st1 := [.int (x1 + (Z.1 211 43)), .int (Z.1 250 (mjIx x3)), .int x2]) (M1 := mjTo Z) rfl ?_
                  by_cases hc122 : mjCmp .gt (Z.1 250 (mjIx x3)) (x1 + (Z.1 211 43)) = true
                  · rw [if_pos hc122] at h
                    refine pG_cmt (t := 98) rfl rfl hc122 ?_
                    refine pG_many 1 (pc1 := 99) (L1 := [some (.ref 211), some (.int x1), some (.int x2), some (.int x3)]) (st1 := [.int 0, .int x2]) (M1 := mjTo Z) rfl ?_
                    cases hq123 : f196_truth 0 Z with
                    | none => rw [hq123] at h; cases h
                    | some v124 =>
                      rw [hq123, mjBp_some] at h
                      refine pG_call (k2 := 196) (As := [.int 0]) (rest := [.int x2]) rfl (by decide) (f196_truth_ok hq123) ?_
                      rintro r9 M9 ⟨rfl, rfl⟩
                      show pG 313 102 [some (.ref 211), some (.int x1), some (.int x2), some (.int x3)] [.int v124, .int x2] (mjTo Z) _
                      refine pG_many 6 (pc1 := 45) (L1 := [some (.ref 211), some (.int x1), some (.int (x2 ||| ((v124 : Int32) <<< ((x3 : Int32) &&& 31)))), some (.int (x3 + 1))]) (st1 := []) (M1 := mjTo Z) rfl ?_
                      exact f313_besides_h45_ok n x1 (x2 ||| ((v124 : Int32) <<< ((x3 : Int32) &&& 31))) (x3 + 1) Z v9 h
                  · rw [if_neg hc122] at h
                    refine pG_cmf (t := 98) rfl rfl hc122 ?_
                    refine pG_many 2 (pc1 := 99) (L1 := [some (.ref 211), some (.int x1), some (.int x2), some (.int x3)]) (st1 := [.int 1, .int x2]) (M1 := mjTo Z) rfl ?_
                    cases hq126 : f196_truth 1 Z with
                    | none => rw [hq126] at h; cases h
                    | some v127 =>
                      rw [hq126, mjBp_some] at h
                      refine pG_call (k2 := 196) (As := [.int 1]) (rest := [.int x2]) rfl (by decide) (f196_truth_ok hq126) ?_
                      rintro r9 M9 ⟨rfl, rfl⟩
                      show pG 313 102 [some (.ref 211), some (.int x1), some (.int x2), some (.int x3)] [.int v127, .int x2] (mjTo Z) _
                      refine pG_many 6 (pc1 := 45) (L1 := [some (.ref 211), some (.int x1), some (.int (x2 ||| ((v127 : Int32) <<< ((x3 : Int32) &&& 31)))), some (.int (x3 + 1))]) (st1 := []) (M1 := mjTo Z) rfl ?_
                      exact f313_besides_h45_ok n x1 (x2 ||| ((v127 : Int32) <<< ((x3 : Int32) &&& 31))) (x3 + 1) Z v9 h
def f313_besides_h4 : Nat → Int32 → Int32 → mjZt → Option Int32
  | 0, _, _, _ => none
  | n + 1, x1, x2, Z =>
    if mjCmp .ge x2 (Z.1 211 39) = true then
      f313_besides_h45 mjF x1 0 0 Z
    else
      mjBp (f312_isThrough x2 Z) fun v130 =>
      if mjCmp .eq v130 0 = true then
        f313_besides_h4 n x1 (x2 + 1) Z
      else
        mjBp (f246_timeOf x2 Z) fun v134 =>
        if mjCmp .le v134 x1 = true then
          f313_besides_h4 n x1 (x2 + 1) Z
        else
          f313_besides_h4 n v134 (x2 + 1) Z
set_option maxRecDepth 4000 in
theorem f313_besides_h4_ok : ∀ (n : Nat) (x1 : Int32) (x2 : Int32) (d3 : Option Value) (Z : mjZt) (v9 : Int32), f313_besides_h4 n x1 x2 Z = some v9 → pG 313 4 [some (.ref 211), some (.int x1), some (.int x2), d3] [] (mjTo Z) (fun r M1 => r = some (.int v9) ∧ M1 = mjTo Z)
  | 0, x1, x2, d3, Z, v9, h => by rw [f313_besides_h4] at h; cases h
  | n + 1, x1, x2, d3, Z, v9, h => by
      rw [f313_besides_h4] at h
      refine pG_many 2 (pc1 := 6) (L1 := [some (.ref 211), some (.int x1), some (.int x2), d3]) (st1 := [.ref 211, .int x2]) (M1 := mjTo Z) rfl ?_
      refine pG_getI (ci := 12) (f := 39) rfl rfl (Or.inl rfl) (by rfl) ?_
      by_cases hc101 : mjCmp .ge x2 (Z.1 211 39) = true
      · rw [if_pos hc101] at h
        refine pG_cmt (t := 41) rfl rfl hc101 ?_
        refine pG_many 4 (pc1 := 45) (L1 := [some (.ref 211), some (.int x1), some (.int 0), some (.int 0)]) (st1 := []) (M1 := mjTo Z) rfl ?_
        exact f313_besides_h45_ok mjF x1 0 0 Z v9 h
      · rw [if_neg hc101] at h
        refine pG_cmf (t := 41) rfl rfl hc101 ?_
        refine pG_many 2 (pc1 := 14) (L1 := [some (.ref 211), some (.int x1), some (.int x2), d3]) (st1 := [.int x2, .ref 211]) (M1 := mjTo Z) rfl ?_
        cases hq129 : f312_isThrough x2 Z with
        | none => rw [hq129] at h; cases h
        | some v130 =>
          rw [hq129, mjBp_some] at h
          refine pG_callV (k2 := 312) (As := [.ref 211, .int x2]) (rest := []) rfl rfl rfl rfl rfl (by rfl) (by decide) (f312_isThrough_ok hq129) ?_
          rintro r9 M9 ⟨rfl, rfl⟩
          show pG 313 17 [some (.ref 211), some (.int x1), some (.int x2), d3] [.int v130] (mjTo Z) _
          by_cases hc132 : mjCmp .eq v130 0 = true
          · rw [if_pos hc132] at h
            refine pG_ift (t := 35) rfl rfl hc132 ?_
            refine pG_many 2 (pc1 := 4) (L1 := [some (.ref 211), some (.int x1), some (.int (x2 + 1)), d3]) (st1 := []) (M1 := mjTo Z) rfl ?_
            exact f313_besides_h4_ok n x1 (x2 + 1) d3 Z v9 h
          · rw [if_neg hc132] at h
            refine pG_iff (t := 35) rfl rfl hc132 ?_
            refine pG_many 2 (pc1 := 22) (L1 := [some (.ref 211), some (.int x1), some (.int x2), d3]) (st1 := [.int x2, .ref 211]) (M1 := mjTo Z) rfl ?_
            cases hq133 : f246_timeOf x2 Z with
            | none => rw [hq133] at h; cases h
            | some v134 =>
              rw [hq133, mjBp_some] at h
              refine pG_callV (k2 := 246) (As := [.ref 211, .int x2]) (rest := []) rfl rfl rfl rfl rfl (by rfl) (by decide) (f246_timeOf_ok hq133) ?_
              rintro r9 M9 ⟨rfl, rfl⟩
              show pG 313 25 [some (.ref 211), some (.int x1), some (.int x2), d3] [.int v134] (mjTo Z) _
              refine pG_many 1 (pc1 := 26) (L1 := [some (.ref 211), some (.int x1), some (.int x2), d3]) (st1 := [.int x1, .int v134]) (M1 := mjTo Z) rfl ?_
              by_cases hc136 : mjCmp .le v134 x1 = true
              · rw [if_pos hc136] at h
                refine pG_cmt (t := 35) rfl rfl hc136 ?_
                refine pG_many 2 (pc1 := 4) (L1 := [some (.ref 211), some (.int x1), some (.int (x2 + 1)), d3]) (st1 := []) (M1 := mjTo Z) rfl ?_
                exact f313_besides_h4_ok n x1 (x2 + 1) d3 Z v9 h
              · rw [if_neg hc136] at h
                refine pG_cmf (t := 35) rfl rfl hc136 ?_
                refine pG_many 2 (pc1 := 31) (L1 := [some (.ref 211), some (.int x1), some (.int x2), d3]) (st1 := [.int x2, .ref 211]) (M1 := mjTo Z) rfl ?_
                refine pG_callV (k2 := 246) (As := [.ref 211, .int x2]) (rest := []) rfl rfl rfl rfl rfl (by rfl) (by decide) (f246_timeOf_ok hq133) ?_
                rintro r9 M9 ⟨rfl, rfl⟩
                show pG 313 34 [some (.ref 211), some (.int x1), some (.int x2), d3] [.int v134] (mjTo Z) _
                refine pG_many 3 (pc1 := 4) (L1 := [some (.ref 211), some (.int v134), some (.int (x2 + 1)), d3]) (st1 := []) (M1 := mjTo Z) rfl ?_
                exact f313_besides_h4_ok n v134 (x2 + 1) d3 Z v9 h
def f313_besides  (Z : mjZt) : Option Int32 :=
  f313_besides_h4 mjF 0 0 Z
set_option maxRecDepth 4000 in
theorem f313_besides_ok  {Z : mjZt} {v9 : Int32} (h : f313_besides  Z = some v9) : pG 313 0 (mjEnt [.ref 211] (mjML 313)) [] (mjTo Z) (fun r M1 => r = some (.int v9) ∧ M1 = mjTo Z) := by
  unfold f313_besides at h
  show pG 313 0 [some (.ref 211), none, none, none] [] (mjTo Z) _
  refine pG_many 4 (pc1 := 4) (L1 := [some (.ref 211), some (.int 0), some (.int 0), none]) (st1 := []) (M1 := mjTo Z) rfl ?_
  exact f313_besides_h4_ok mjF 0 0 none Z v9 h
def f314_who_h32 : Nat → Int32 → Int32 → Int32 → mjZt → Option (Int32 × mjZt)
  | 0, _, _, _, _ => none
  | n + 1, x1, x2, x3, Z =>
    if mjCmp .ge x3 (Z.1 211 39) = true then
      some (x2, Z)
    else
      if mjCmp .ne x1 0 = true then
        if mjCmp .ne x1 1 = true then
          if mjCmp .ne x1 2 = true then
            mjBp (f247_isWhole x3 Z) fun v114 =>
            mjBp (f196_truth v114 Z) fun v117 =>
            f314_who_h32 n x1 (x2 ||| ((v117 : Int32) <<< ((x3 : Int32) &&& 31))) (x3 + 1) Z
          else
            if mjIn x3 6 = true then
            mjBp (f196_truth (Z.1 249 (mjIx x3)) Z) fun v121 =>
            f314_who_h32 n x1 (x2 ||| ((v121 : Int32) <<< ((x3 : Int32) &&& 31))) (x3 + 1) Z
            else none
        else
          mjBp (f312_isThrough x3 Z) fun v124 =>
          mjBp (f196_truth v124 Z) fun v127 =>
          f314_who_h32 n x1 (x2 ||| ((v127 : Int32) <<< ((x3 : Int32) &&& 31))) (x3 + 1) Z
      else
        if mjIn x3 6 = true then
        mjBp (f196_truth (Z.1 248 (mjIx x3)) Z) fun v131 =>
        f314_who_h32 n x1 (x2 ||| ((v131 : Int32) <<< ((x3 : Int32) &&& 31))) (x3 + 1) Z
        else none
set_option maxRecDepth 4000 in
theorem f314_who_h32_ok : ∀ (n : Nat) (x1 : Int32) (x2 : Int32) (x3 : Int32) (Z : mjZt) (v9 : Int32) (Z9 : mjZt), f314_who_h32 n x1 x2 x3 Z = some (v9, Z9) → pG 314 32 [some (.ref 211), some (.int x1), some (.int x2), some (.int x3)] [] (mjTo Z) (fun r M1 => r = some (.int v9) ∧ M1 = mjTo Z9)
  | 0, x1, x2, x3, Z, v9, Z9, h => by rw [f314_who_h32] at h; cases h
  | n + 1, x1, x2, x3, Z, v9, Z9, h => by
      rw [f314_who_h32] at h
      refine pG_many 2 (pc1 := 34) (L1 := [some (.ref 211), some (.int x1), some (.int x2), some (.int x3)]) (st1 := [.ref 211, .int x3]) (M1 := mjTo Z) rfl ?_
      refine pG_getI (ci := 12) (f := 39) rfl rfl (Or.inl rfl) (by rfl) ?_
      by_cases hc109 : mjCmp .ge x3 (Z.1 211 39) = true
      · rw [if_pos hc109] at h
        refine pG_cmt (t := 99) rfl rfl hc109 ?_
        refine pG_many 1 (pc1 := 100) (L1 := [some (.ref 211), some (.int x1), some (.int x2), some (.int x3)]) (st1 := [.int x2]) (M1 := mjTo Z) rfl ?_
        simp only [Option.some.injEq, Prod.mk.injEq] at h
        obtain ⟨rfl, rfl⟩ := h
        exact pG_ret (r := some (.int x2)) rfl ⟨rfl, rfl⟩
      · rw [if_neg hc109] at h
        refine pG_cmf (t := 99) rfl rfl hc109 ?_
        refine pG_many 2 (pc1 := 42) (L1 := [some (.ref 211), some (.int x1), some (.int x2), some (.int x3)]) (st1 := [.int x1, .int x2]) (M1 := mjTo Z) rfl ?_
        by_cases hc110 : mjCmp .ne x1 0 = true
        · rw [if_pos hc110] at h
          refine pG_ift (t := 54) rfl rfl hc110 ?_
          refine pG_many 2 (pc1 := 56) (L1 := [some (.ref 211), some (.int x1), some (.int x2), some (.int x3)]) (st1 := [.int 1, .int x1, .int x2]) (M1 := mjTo Z) rfl ?_
          by_cases hc111 : mjCmp .ne x1 1 = true
          · rw [if_pos hc111] at h
            refine pG_cmt (t := 67) rfl rfl hc111 ?_
            refine pG_many 2 (pc1 := 69) (L1 := [some (.ref 211), some (.int x1), some (.int x2), some (.int x3)]) (st1 := [.int 2, .int x1, .int x2]) (M1 := mjTo Z) rfl ?_
            by_cases hc112 : mjCmp .ne x1 2 = true
            · rw [if_pos hc112] at h
              refine pG_cmt (t := 81) rfl rfl hc112 ?_
              refine pG_many 2 (pc1 := 83) (L1 := [some (.ref 211), some (.int x1), some (.int x2), some (.int x3)]) (st1 := [.int x3, .ref 211, .int x2]) (M1 := mjTo Z) rfl ?_
              cases hq113 : f247_isWhole x3 Z with
              | none => rw [hq113] at h; cases h
              | some v114 =>
                rw [hq113, mjBp_some] at h
                refine pG_callV (k2 := 247) (As := [.ref 211, .int x3]) (rest := [.int x2]) rfl rfl rfl rfl rfl (by rfl) (by decide) (f247_isWhole_ok hq113) ?_
                rintro r9 M9 ⟨rfl, rfl⟩
                show pG 314 86 [some (.ref 211), some (.int x1), some (.int x2), some (.int x3)] [.int v114, .int x2] (mjTo Z) _
                cases hq116 : f196_truth v114 Z with
                | none => rw [hq116] at h; cases h
                | some v117 =>
                  rw [hq116, mjBp_some] at h
                  refine pG_call (k2 := 196) (As := [.int v114]) (rest := [.int x2]) rfl (by decide) (f196_truth_ok hq116) ?_
                  rintro r9 M9 ⟨rfl, rfl⟩
                  show pG 314 89 [some (.ref 211), some (.int x1), some (.int x2), some (.int x3)] [.int v117, .int x2] (mjTo Z) _
                  refine pG_many 6 (pc1 := 32) (L1 := [some (.ref 211), some (.int x1), some (.int (x2 ||| ((v117 : Int32) <<< ((x3 : Int32) &&& 31)))), some (.int (x3 + 1))]) (st1 := []) (M1 := mjTo Z) rfl ?_
                  exact f314_who_h32_ok n x1 (x2 ||| ((v117 : Int32) <<< ((x3 : Int32) &&& 31))) (x3 + 1) Z v9 Z9 h
            · rw [if_neg hc112] at h
              refine pG_cmf (t := 81) rfl rfl hc112 ?_
              refine pG_many 1 (pc1 := 73) (L1 := [some (.ref 211), some (.int x1), some (.int x2), some (.int x3)]) (st1 := [.ref 211, .int x2]) (M1 := mjTo Z) rfl ?_
              refine pG_getR (ci := 12) (f := 70) (b := 249) rfl rfl rfl (by rfl) rfl ?_
              refine pG_many 1 (pc1 := 77) (L1 := [some (.ref 211), some (.int x1), some (.int x2), some (.int x3)]) (st1 := [.int x3, .ref 249, .int x2]) (M1 := mjTo Z) rfl ?_
              have hk119 : mjIn x3 6 = true := by
                by_cases q9 : mjIn x3 6 = true
                · exact q9
                · rw [if_neg q9] at h; cases h
              rw [if_pos hk119] at h
              refine pG_bal rfl (by rfl) hk119 ?_
              refine pG_many 1 (pc1 := 86) (L1 := [some (.ref 211), some (.int x1), some (.int x2), some (.int x3)]) (st1 := [.int (Z.1 249 (mjIx x3)), .int x2]) (M1 := mjTo Z) rfl ?_
              cases hq120 : f196_truth (Z.1 249 (mjIx x3)) Z with
              | none => rw [hq120] at h; cases h
              | some v121 =>
                rw [hq120, mjBp_some] at h
                refine pG_call (k2 := 196) (As := [.int (Z.1 249 (mjIx x3))]) (rest := [.int x2]) rfl (by decide) (f196_truth_ok hq120) ?_
                rintro r9 M9 ⟨rfl, rfl⟩
                show pG 314 89 [some (.ref 211), some (.int x1), some (.int x2), some (.int x3)] [.int v121, .int x2] (mjTo Z) _
                refine pG_many 6 (pc1 := 32) (L1 := [some (.ref 211), some (.int x1), some (.int (x2 ||| ((v121 : Int32) <<< ((x3 : Int32) &&& 31)))), some (.int (x3 + 1))]) (st1 := []) (M1 := mjTo Z) rfl ?_
                exact f314_who_h32_ok n x1 (x2 ||| ((v121 : Int32) <<< ((x3 : Int32) &&& 31))) (x3 + 1) Z v9 Z9 h
          · rw [if_neg hc111] at h
            refine pG_cmf (t := 67) rfl rfl hc111 ?_
            refine pG_many 2 (pc1 := 61) (L1 := [some (.ref 211), some (.int x1), some (.int x2), some (.int x3)]) (st1 := [.int x3, .ref 211, .int x2]) (M1 := mjTo Z) rfl ?_
            cases hq123 : f312_isThrough x3 Z with
            | none => rw [hq123] at h; cases h
            | some v124 =>
              rw [hq123, mjBp_some] at h
              refine pG_callV (k2 := 312) (As := [.ref 211, .int x3]) (rest := [.int x2]) rfl rfl rfl rfl rfl (by rfl) (by decide) (f312_isThrough_ok hq123) ?_
              rintro r9 M9 ⟨rfl, rfl⟩
              show pG 314 64 [some (.ref 211), some (.int x1), some (.int x2), some (.int x3)] [.int v124, .int x2] (mjTo Z) _
              refine pG_many 1 (pc1 := 86) (L1 := [some (.ref 211), some (.int x1), some (.int x2), some (.int x3)]) (st1 := [.int v124, .int x2]) (M1 := mjTo Z) rfl ?_
              cases hq126 : f196_truth v124 Z with
              | none => rw [hq126] at h; cases h
              | some v127 =>
                rw [hq126, mjBp_some] at h
                refine pG_call (k2 := 196) (As := [.int v124]) (rest := [.int x2]) rfl (by decide) (f196_truth_ok hq126) ?_
                rintro r9 M9 ⟨rfl, rfl⟩
                show pG 314 89 [some (.ref 211), some (.int x1), some (.int x2), some (.int x3)] [.int v127, .int x2] (mjTo Z) _
                refine pG_many 6 (pc1 := 32) (L1 := [some (.ref 211), some (.int x1), some (.int (x2 ||| ((v127 : Int32) <<< ((x3 : Int32) &&& 31)))), some (.int (x3 + 1))]) (st1 := []) (M1 := mjTo Z) rfl ?_
                exact f314_who_h32_ok n x1 (x2 ||| ((v127 : Int32) <<< ((x3 : Int32) &&& 31))) (x3 + 1) Z v9 Z9 h
        · rw [if_neg hc110] at h
          refine pG_iff (t := 54) rfl rfl hc110 ?_
          refine pG_many 1 (pc1 := 46) (L1 := [some (.ref 211), some (.int x1), some (.int x2), some (.int x3)]) (st1 := [.ref 211, .int x2]) (M1 := mjTo Z) rfl ?_
          refine pG_getR (ci := 12) (f := 69) (b := 248) rfl rfl rfl (by rfl) rfl ?_
          refine pG_many 1 (pc1 := 50) (L1 := [some (.ref 211), some (.int x1), some (.int x2), some (.int x3)]) (st1 := [.int x3, .ref 248, .int x2]) (M1 := mjTo Z) rfl ?_
          have hk129 : mjIn x3 6 = true := by
            by_cases q9 : mjIn x3 6 = true
            · exact q9
            · rw [if_neg q9] at h; cases h
          rw [if_pos hk129] at h
          refine pG_bal rfl (by rfl) hk129 ?_
          refine pG_many 1 (pc1 := 86) (L1 := [some (.ref 211), some (.int x1), some (.int x2), some (.int x3)]) (st1 := [.int (Z.1 248 (mjIx x3)), .int x2]) (M1 := mjTo Z) rfl ?_
          cases hq130 : f196_truth (Z.1 248 (mjIx x3)) Z with
          | none => rw [hq130] at h; cases h
          | some v131 =>
            rw [hq130, mjBp_some] at h
            refine pG_call (k2 := 196) (As := [.int (Z.1 248 (mjIx x3))]) (rest := [.int x2]) rfl (by decide) (f196_truth_ok hq130) ?_
            rintro r9 M9 ⟨rfl, rfl⟩
            show pG 314 89 [some (.ref 211), some (.int x1), some (.int x2), some (.int x3)] [.int v131, .int x2] (mjTo Z) _
            refine pG_many 6 (pc1 := 32) (L1 := [some (.ref 211), some (.int x1), some (.int (x2 ||| ((v131 : Int32) <<< ((x3 : Int32) &&& 31)))), some (.int (x3 + 1))]) (st1 := []) (M1 := mjTo Z) rfl ?_
            exact f314_who_h32_ok n x1 (x2 ||| ((v131 : Int32) <<< ((x3 : Int32) &&& 31))) (x3 + 1) Z v9 Z9 h
def f314_who (p0 : Int32) (Z : mjZt) : Option (Int32 × mjZt) :=
  mjBp (f195_isIn (Int32.toInt64 p0) 0 4 Z) fun v102 =>
  if mjCmp .ne v102 0 = true then
    mjBd (f302_laysStruck  Z) fun _ Z107 =>
    if mjCmp .ne p0 3 = true then
      f314_who_h32 mjF p0 0 0 Z107
    else
      mjBp (f313_besides  Z107) fun v134 =>
      some (v134, Z107)
  else
    some ((-1), Z)
set_option maxRecDepth 4000 in
theorem f314_who_ok {p0 : Int32} {Z : mjZt} {v9 : Int32} {Z9 : mjZt} (h : f314_who p0 Z = some (v9, Z9)) : pG 314 0 (mjEnt [.ref 211, .int p0] (mjML 314)) [] (mjTo Z) (fun r M1 => r = some (.int v9) ∧ M1 = mjTo Z9) := by
  unfold f314_who at h
  show pG 314 0 [some (.ref 211), some (.int p0), none, none] [] (mjTo Z) _
  refine pG_many 4 (pc1 := 6) (L1 := [some (.ref 211), some (.int p0), none, none]) (st1 := [.long 4, .long 0, .long (Int32.toInt64 p0)]) (M1 := mjTo Z) rfl ?_
  cases hq101 : f195_isIn (Int32.toInt64 p0) 0 4 Z with
  | none => rw [hq101] at h; cases h
  | some v102 =>
    rw [hq101, mjBp_some] at h
    refine pG_call (k2 := 195) (As := [.long (Int32.toInt64 p0), .long 0, .long 4]) (rest := []) rfl (by decide) (f195_isIn_ok hq101) ?_
    rintro r9 M9 ⟨rfl, rfl⟩
    show pG 314 9 [some (.ref 211), some (.int p0), none, none] [.int v102] (mjTo Z) _
    by_cases hc104 : mjCmp .ne v102 0 = true
    · rw [if_pos hc104] at h
      refine pG_ift (t := 14) rfl rfl hc104 ?_
      refine pG_many 1 (pc1 := 15) (L1 := [some (.ref 211), some (.int p0), none, none]) (st1 := [.ref 211]) (M1 := mjTo Z) rfl ?_
      cases hq105 : f302_laysStruck  Z with
      | none => rw [hq105] at h; cases h
      | some w =>
        obtain ⟨v106, Z107⟩ := w
        rw [hq105, mjBd_some] at h
        refine pG_callV (k2 := 302) (As := [.ref 211]) (rest := []) rfl rfl rfl rfl rfl (by rfl) (by decide) (f302_laysStruck_ok hq105) ?_
        rintro r9 M9 ⟨rfl, rfl⟩
        show pG 314 18 [some (.ref 211), some (.int p0), none, none] [] (mjTo Z107) _
        refine pG_many 2 (pc1 := 20) (L1 := [some (.ref 211), some (.int p0), none, none]) (st1 := [.int 3, .int p0]) (M1 := mjTo Z107) rfl ?_
        by_cases hc108 : mjCmp .ne p0 3 = true
        · rw [if_pos hc108] at h
          refine pG_cmt (t := 28) rfl rfl hc108 ?_
          refine pG_many 4 (pc1 := 32) (L1 := [some (.ref 211), some (.int p0), some (.int 0), some (.int 0)]) (st1 := []) (M1 := mjTo Z107) rfl ?_
          exact f314_who_h32_ok mjF p0 0 0 Z107 v9 Z9 h
        · rw [if_neg hc108] at h
          refine pG_cmf (t := 28) rfl rfl hc108 ?_
          refine pG_many 1 (pc1 := 24) (L1 := [some (.ref 211), some (.int p0), none, none]) (st1 := [.ref 211]) (M1 := mjTo Z107) rfl ?_
          cases hq133 : f313_besides  Z107 with
          | none => rw [hq133] at h; cases h
          | some v134 =>
            rw [hq133, mjBp_some] at h
            refine pG_callV (k2 := 313) (As := [.ref 211]) (rest := []) rfl rfl rfl rfl rfl (by rfl) (by decide) (f313_besides_ok hq133) ?_
            rintro r9 M9 ⟨rfl, rfl⟩
            show pG 314 27 [some (.ref 211), some (.int p0), none, none] [.int v134] (mjTo Z107) _
            simp only [Option.some.injEq, Prod.mk.injEq] at h
            obtain ⟨rfl, rfl⟩ := h
            exact pG_ret (r := some (.int v134)) rfl ⟨rfl, rfl⟩
    · rw [if_neg hc104] at h
      refine pG_iff (t := 14) rfl rfl hc104 ?_
      refine pG_many 1 (pc1 := 13) (L1 := [some (.ref 211), some (.int p0), none, none]) (st1 := [.int ((-1))]) (M1 := mjTo Z) rfl ?_
      simp only [Option.some.injEq, Prod.mk.injEq] at h
      obtain ⟨rfl, rfl⟩ := h
      exact pG_ret (r := some (.int ((-1)))) rfl ⟨rfl, rfl⟩
def f315_would (p0 : Int32) (Z : mjZt) : Option (Int32 × mjZt) :=
  mjBp (f240_isTeam p0 Z) fun v102 =>
  if mjCmp .ne v102 0 = true then
    mjBd (f302_laysStruck  Z) fun _ Z107 =>
    mjBp (f247_isWhole p0 Z107) fun v109 =>
    if mjCmp .eq v109 0 = true then
      some ((-2), Z107)
    else
      if mjIn p0 6 = true then
      some (Z107.1 250 (mjIx p0), Z107)
      else none
  else
    some ((-1), Z)
set_option maxRecDepth 4000 in
theorem f315_would_ok {p0 : Int32} {Z : mjZt} {v9 : Int32} {Z9 : mjZt} (h : f315_would p0 Z = some (v9, Z9)) : pG 315 0 (mjEnt [.ref 211, .int p0] (mjML 315)) [] (mjTo Z) (fun r M1 => r = some (.int v9) ∧ M1 = mjTo Z9) := by
  unfold f315_would at h
  show pG 315 0 [some (.ref 211), some (.int p0)] [] (mjTo Z) _
  refine pG_many 2 (pc1 := 2) (L1 := [some (.ref 211), some (.int p0)]) (st1 := [.int p0, .ref 211]) (M1 := mjTo Z) rfl ?_
  cases hq101 : f240_isTeam p0 Z with
  | none => rw [hq101] at h; cases h
  | some v102 =>
    rw [hq101, mjBp_some] at h
    refine pG_callV (k2 := 240) (As := [.ref 211, .int p0]) (rest := []) rfl rfl rfl rfl rfl (by rfl) (by decide) (f240_isTeam_ok hq101) ?_
    rintro r9 M9 ⟨rfl, rfl⟩
    show pG 315 5 [some (.ref 211), some (.int p0)] [.int v102] (mjTo Z) _
    by_cases hc104 : mjCmp .ne v102 0 = true
    · rw [if_pos hc104] at h
      refine pG_ift (t := 10) rfl rfl hc104 ?_
      refine pG_many 1 (pc1 := 11) (L1 := [some (.ref 211), some (.int p0)]) (st1 := [.ref 211]) (M1 := mjTo Z) rfl ?_
      cases hq105 : f302_laysStruck  Z with
      | none => rw [hq105] at h; cases h
      | some w =>
        obtain ⟨v106, Z107⟩ := w
        rw [hq105, mjBd_some] at h
        refine pG_callV (k2 := 302) (As := [.ref 211]) (rest := []) rfl rfl rfl rfl rfl (by rfl) (by decide) (f302_laysStruck_ok hq105) ?_
        rintro r9 M9 ⟨rfl, rfl⟩
        show pG 315 14 [some (.ref 211), some (.int p0)] [] (mjTo Z107) _
        refine pG_many 2 (pc1 := 16) (L1 := [some (.ref 211), some (.int p0)]) (st1 := [.int p0, .ref 211]) (M1 := mjTo Z107) rfl ?_
        cases hq108 : f247_isWhole p0 Z107 with
        | none => rw [hq108] at h; cases h
        | some v109 =>
          rw [hq108, mjBp_some] at h
          refine pG_callV (k2 := 247) (As := [.ref 211, .int p0]) (rest := []) rfl rfl rfl rfl rfl (by rfl) (by decide) (f247_isWhole_ok hq108) ?_
          rintro r9 M9 ⟨rfl, rfl⟩
          show pG 315 19 [some (.ref 211), some (.int p0)] [.int v109] (mjTo Z107) _
          by_cases hc111 : mjCmp .eq v109 0 = true
          · rw [if_pos hc111] at h
            refine pG_ift (t := 31) rfl rfl hc111 ?_
            refine pG_many 1 (pc1 := 33) (L1 := [some (.ref 211), some (.int p0)]) (st1 := [.int ((-2))]) (M1 := mjTo Z107) rfl ?_
            simp only [Option.some.injEq, Prod.mk.injEq] at h
            obtain ⟨rfl, rfl⟩ := h
            exact pG_ret (r := some (.int ((-2)))) rfl ⟨rfl, rfl⟩
          · rw [if_neg hc111] at h
            refine pG_iff (t := 31) rfl rfl hc111 ?_
            refine pG_many 1 (pc1 := 23) (L1 := [some (.ref 211), some (.int p0)]) (st1 := [.ref 211]) (M1 := mjTo Z107) rfl ?_
            refine pG_getR (ci := 12) (f := 71) (b := 250) rfl rfl rfl (by rfl) rfl ?_
            refine pG_many 1 (pc1 := 27) (L1 := [some (.ref 211), some (.int p0)]) (st1 := [.int p0, .ref 250]) (M1 := mjTo Z107) rfl ?_
            have hk112 : mjIn p0 6 = true := by
              by_cases q9 : mjIn p0 6 = true
              · exact q9
              · rw [if_neg q9] at h; cases h
            rw [if_pos hk112] at h
            refine pG_ial rfl (by rfl) hk112 ?_
            refine pG_many 1 (pc1 := 33) (L1 := [some (.ref 211), some (.int p0)]) (st1 := [.int (Z107.1 250 (mjIx p0))]) (M1 := mjTo Z107) rfl ?_
            simp only [Option.some.injEq, Prod.mk.injEq] at h
            obtain ⟨rfl, rfl⟩ := h
            exact pG_ret (r := some (.int (Z107.1 250 (mjIx p0)))) rfl ⟨rfl, rfl⟩
    · rw [if_neg hc104] at h
      refine pG_iff (t := 10) rfl rfl hc104 ?_
      refine pG_many 1 (pc1 := 9) (L1 := [some (.ref 211), some (.int p0)]) (st1 := [.int ((-1))]) (M1 := mjTo Z) rfl ?_
      simp only [Option.some.injEq, Prod.mk.injEq] at h
      obtain ⟨rfl, rfl⟩ := h
      exact pG_ret (r := some (.int ((-1)))) rfl ⟨rfl, rfl⟩
def f316_again_j43 (R : Int32 → Int32 → Int32 → Int32 → mjZt → Option (Int32 × mjZt)) (x1 : Int32) (x3 : Int32) (x4 : Int32) (s0 : Int32) (Z : mjZt) : Option (Int32 × mjZt) :=
  if mjCmp .ne x3 0 = true then
    R x1 s0 1 (x4 + 1) Z
  else
    mjBp (f247_isWhole x4 Z) fun v126 =>
    if mjCmp .eq v126 0 = true then
      R x1 s0 0 (x4 + 1) Z
    else
      if mjIn x4 6 = true then
      if mjCmp .ne (Z.1 248 (mjIx x4)) 0 = true then
        R x1 s0 0 (x4 + 1) Z
      else
        if mjCmp .ne (Z.1 249 (mjIx x4)) 0 = true then
          R x1 s0 0 (x4 + 1) Z
        else
          R x1 s0 1 (x4 + 1) Z
      else none
set_option maxRecDepth 4000 in
theorem f316_again_j43_ok (R : Int32 → Int32 → Int32 → Int32 → mjZt → Option (Int32 × mjZt)) (hR : ∀ (x1 : Int32) (x2 : Int32) (x3 : Int32) (x4 : Int32) (Z : mjZt) (v9 : Int32) (Z9 : mjZt), R x1 x2 x3 x4 Z = some (v9, Z9) → pG 316 16 [some (.ref 211), some (.int x1), some (.int x2), some (.int x3), some (.int x4)] [] (mjTo Z) (fun r M1 => r = some (.int v9) ∧ M1 = mjTo Z9)) (x1 : Int32) (x3 : Int32) (x4 : Int32) (s0 : Int32) (d2 : Option Value) (Z : mjZt) (v9 : Int32) (Z9 : mjZt) (h : f316_again_j43 R x1 x3 x4 s0 Z = some (v9, Z9)) : pG 316 43 [some (.ref 211), some (.int x1), d2, some (.int x3), some (.int x4)] [.int s0] (mjTo Z) (fun r M1 => r = some (.int v9) ∧ M1 = mjTo Z9) := by
  unfold f316_again_j43 at h
  refine pG_many 2 (pc1 := 45) (L1 := [some (.ref 211), some (.int x1), some (.int s0), some (.int x3), some (.int x4)]) (st1 := [.int x3]) (M1 := mjTo Z) rfl ?_
  by_cases hc124 : mjCmp .ne x3 0 = true
  · rw [if_pos hc124] at h
    refine pG_ift (t := 77) rfl rfl hc124 ?_
    refine pG_many 5 (pc1 := 16) (L1 := [some (.ref 211), some (.int x1), some (.int s0), some (.int 1), some (.int (x4 + 1))]) (st1 := []) (M1 := mjTo Z) rfl ?_
    exact hR x1 s0 1 (x4 + 1) Z v9 Z9 h
  · rw [if_neg hc124] at h
    refine pG_iff (t := 77) rfl rfl hc124 ?_
    refine pG_many 2 (pc1 := 51) (L1 := [some (.ref 211), some (.int x1), some (.int s0), some (.int x3), some (.int x4)]) (st1 := [.int x4, .ref 211]) (M1 := mjTo Z) rfl ?_
    cases hq125 : f247_isWhole x4 Z with
    | none => rw [hq125] at h; cases h
    | some v126 =>
      rw [hq125, mjBp_some] at h
      refine pG_callV (k2 := 247) (As := [.ref 211, .int x4]) (rest := []) rfl rfl rfl rfl rfl (by rfl) (by decide) (f247_isWhole_ok hq125) ?_
      rintro r9 M9 ⟨rfl, rfl⟩
      show pG 316 54 [some (.ref 211), some (.int x1), some (.int s0), some (.int x3), some (.int x4)] [.int v126] (mjTo Z) _
      by_cases hc128 : mjCmp .eq v126 0 = true
      · rw [if_pos hc128] at h
        refine pG_ift (t := 81) rfl rfl hc128 ?_
        refine pG_many 4 (pc1 := 16) (L1 := [some (.ref 211), some (.int x1), some (.int s0), some (.int 0), some (.int (x4 + 1))]) (st1 := []) (M1 := mjTo Z) rfl ?_
        exact hR x1 s0 0 (x4 + 1) Z v9 Z9 h
      · rw [if_neg hc128] at h
        refine pG_iff (t := 81) rfl rfl hc128 ?_
        refine pG_many 1 (pc1 := 58) (L1 := [some (.ref 211), some (.int x1), some (.int s0), some (.int x3), some (.int x4)]) (st1 := [.ref 211]) (M1 := mjTo Z) rfl ?_
        refine pG_getR (ci := 12) (f := 69) (b := 248) rfl rfl rfl (by rfl) rfl ?_
        refine pG_many 1 (pc1 := 63) (L1 := [some (.ref 211), some (.int x1), some (.int s0), some (.int x3), some (.int x4)]) (st1 := [.int x4, .ref 248]) (M1 := mjTo Z) rfl ?_
        have hk129 : mjIn x4 6 = true := by
          by_cases q9 : mjIn x4 6 = true
          · exact q9
          · rw [if_neg q9] at h; cases h
        rw [if_pos hk129] at h
        refine pG_bal rfl (by rfl) hk129 ?_
        by_cases hc130 : mjCmp .ne (Z.1 248 (mjIx x4)) 0 = true
        · rw [if_pos hc130] at h
          refine pG_ift (t := 81) rfl rfl hc130 ?_
          refine pG_many 4 (pc1 := 16) (L1 := [some (.ref 211), some (.int x1), some (.int s0), some (.int 0), some (.int (x4 + 1))]) (st1 := []) (M1 := mjTo Z) rfl ?_
          exact hR x1 s0 0 (x4 + 1) Z v9 Z9 h
        · rw [if_neg hc130] at h
          refine pG_iff (t := 81) rfl rfl hc130 ?_
          refine pG_many 1 (pc1 := 68) (L1 := [some (.ref 211), some (.int x1), some (.int s0), some (.int x3), some (.int x4)]) (st1 := [.ref 211]) (M1 := mjTo Z) rfl ?_
          refine pG_getR (ci := 12) (f := 70) (b := 249) rfl rfl rfl (by rfl) rfl ?_
          refine pG_many 1 (pc1 := 73) (L1 := [some (.ref 211), some (.int x1), some (.int s0), some (.int x3), some (.int x4)]) (st1 := [.int x4, .ref 249]) (M1 := mjTo Z) rfl ?_
          refine pG_bal rfl (by rfl) hk129 ?_
          by_cases hc131 : mjCmp .ne (Z.1 249 (mjIx x4)) 0 = true
          · rw [if_pos hc131] at h
            refine pG_ift (t := 81) rfl rfl hc131 ?_
            refine pG_many 4 (pc1 := 16) (L1 := [some (.ref 211), some (.int x1), some (.int s0), some (.int 0), some (.int (x4 + 1))]) (st1 := []) (M1 := mjTo Z) rfl ?_
            exact hR x1 s0 0 (x4 + 1) Z v9 Z9 h
          · rw [if_neg hc131] at h
            refine pG_iff (t := 81) rfl rfl hc131 ?_
            refine pG_many 5 (pc1 := 16) (L1 := [some (.ref 211), some (.int x1), some (.int s0), some (.int 1), some (.int (x4 + 1))]) (st1 := []) (M1 := mjTo Z) rfl ?_
            exact hR x1 s0 1 (x4 + 1) Z v9 Z9 h
def f316_again_j38 (R : Int32 → Int32 → Int32 → Int32 → mjZt → Option (Int32 × mjZt)) (x1 : Int32) (x3 : Int32) (x4 : Int32) (Z : mjZt) : Option (Int32 × mjZt) :=
  f316_again_j43 R x1 x3 x4 1 Z
set_option maxRecDepth 4000 in
theorem f316_again_j38_ok (R : Int32 → Int32 → Int32 → Int32 → mjZt → Option (Int32 × mjZt)) (hR : ∀ (x1 : Int32) (x2 : Int32) (x3 : Int32) (x4 : Int32) (Z : mjZt) (v9 : Int32) (Z9 : mjZt), R x1 x2 x3 x4 Z = some (v9, Z9) → pG 316 16 [some (.ref 211), some (.int x1), some (.int x2), some (.int x3), some (.int x4)] [] (mjTo Z) (fun r M1 => r = some (.int v9) ∧ M1 = mjTo Z9)) (x1 : Int32) (x3 : Int32) (x4 : Int32) (d2 : Option Value) (Z : mjZt) (v9 : Int32) (Z9 : mjZt) (h : f316_again_j38 R x1 x3 x4 Z = some (v9, Z9)) : pG 316 38 [some (.ref 211), some (.int x1), d2, some (.int x3), some (.int x4)] [] (mjTo Z) (fun r M1 => r = some (.int v9) ∧ M1 = mjTo Z9) := by
  unfold f316_again_j38 at h
  refine pG_many 2 (pc1 := 43) (L1 := [some (.ref 211), some (.int x1), d2, some (.int x3), some (.int x4)]) (st1 := [.int 1]) (M1 := mjTo Z) rfl ?_
  exact f316_again_j43_ok R hR x1 x3 x4 1 d2 Z v9 Z9 h
def f316_again_h16 : Nat → Int32 → Int32 → Int32 → Int32 → mjZt → Option (Int32 × mjZt)
  | 0, _, _, _, _, _ => none
  | n + 1, x1, x2, x3, x4, Z =>
    if mjCmp .ge x4 (Z.1 211 39) = true then
      if mjCmp .ne (x1 &&& (x1 - 1)) 0 = true then
        mjBp (f196_truth 1 Z) fun v110 =>
        some (v110, Z)
      else
        if mjCmp .eq x2 0 = true then
          mjBp (f196_truth 0 Z) fun v114 =>
          some (v114, Z)
        else
          if mjCmp .ne x3 0 = true then
            mjBp (f196_truth 0 Z) fun v118 =>
            some (v118, Z)
          else
            mjBp (f196_truth 1 Z) fun v121 =>
            some (v121, Z)
    else
      if mjCmp .ne x2 0 = true then
        f316_again_j38 (f316_again_h16 n) x1 x3 x4 Z
      else
        mjBp (f247_isWhole x4 Z) fun v133 =>
        if mjCmp .eq v133 0 = true then
          f316_again_j43 (f316_again_h16 n) x1 x3 x4 0 Z
        else
          f316_again_j38 (f316_again_h16 n) x1 x3 x4 Z
set_option maxRecDepth 4000 in
theorem f316_again_h16_ok : ∀ (n : Nat) (x1 : Int32) (x2 : Int32) (x3 : Int32) (x4 : Int32) (Z : mjZt) (v9 : Int32) (Z9 : mjZt), f316_again_h16 n x1 x2 x3 x4 Z = some (v9, Z9) → pG 316 16 [some (.ref 211), some (.int x1), some (.int x2), some (.int x3), some (.int x4)] [] (mjTo Z) (fun r M1 => r = some (.int v9) ∧ M1 = mjTo Z9)
  | 0, x1, x2, x3, x4, Z, v9, Z9, h => by rw [f316_again_h16] at h; cases h
  | n + 1, x1, x2, x3, x4, Z, v9, Z9, h => by
      rw [f316_again_h16] at h
      refine pG_many 2 (pc1 := 19) (L1 := [some (.ref 211), some (.int x1), some (.int x2), some (.int x3), some (.int x4)]) (st1 := [.ref 211, .int x4]) (M1 := mjTo Z) rfl ?_
      refine pG_getI (ci := 12) (f := 39) rfl rfl (Or.inl rfl) (by rfl) ?_
      by_cases hc107 : mjCmp .ge x4 (Z.1 211 39) = true
      · rw [if_pos hc107] at h
        refine pG_cmt (t := 89) rfl rfl hc107 ?_
        refine pG_many 5 (pc1 := 94) (L1 := [some (.ref 211), some (.int x1), some (.int x2), some (.int x3), some (.int x4)]) (st1 := [.int (x1 &&& (x1 - 1))]) (M1 := mjTo Z) rfl ?_
        by_cases hc108 : mjCmp .ne (x1 &&& (x1 - 1)) 0 = true
        · rw [if_pos hc108] at h
          refine pG_ift (t := 105) rfl rfl hc108 ?_
          refine pG_many 2 (pc1 := 110) (L1 := [some (.ref 211), some (.int x1), some (.int x2), some (.int x3), some (.int x4)]) (st1 := [.int 1]) (M1 := mjTo Z) rfl ?_
          cases hq109 : f196_truth 1 Z with
          | none => rw [hq109] at h; cases h
          | some v110 =>
            rw [hq109, mjBp_some] at h
            refine pG_call (k2 := 196) (As := [.int 1]) (rest := []) rfl (by decide) (f196_truth_ok hq109) ?_
            rintro r9 M9 ⟨rfl, rfl⟩
            show pG 316 113 [some (.ref 211), some (.int x1), some (.int x2), some (.int x3), some (.int x4)] [.int v110] (mjTo Z) _
            simp only [Option.some.injEq, Prod.mk.injEq] at h
            obtain ⟨rfl, rfl⟩ := h
            exact pG_ret (r := some (.int v110)) rfl ⟨rfl, rfl⟩
        · rw [if_neg hc108] at h
          refine pG_iff (t := 105) rfl rfl hc108 ?_
          refine pG_many 1 (pc1 := 98) (L1 := [some (.ref 211), some (.int x1), some (.int x2), some (.int x3), some (.int x4)]) (st1 := [.int x2]) (M1 := mjTo Z) rfl ?_
          by_cases hc112 : mjCmp .eq x2 0 = true
          · rw [if_pos hc112] at h
            refine pG_ift (t := 109) rfl rfl hc112 ?_
            refine pG_many 1 (pc1 := 110) (L1 := [some (.ref 211), some (.int x1), some (.int x2), some (.int x3), some (.int x4)]) (st1 := [.int 0]) (M1 := mjTo Z) rfl ?_
            cases hq113 : f196_truth 0 Z with
            | none => rw [hq113] at h; cases h
            | some v114 =>
              rw [hq113, mjBp_some] at h
              refine pG_call (k2 := 196) (As := [.int 0]) (rest := []) rfl (by decide) (f196_truth_ok hq113) ?_
              rintro r9 M9 ⟨rfl, rfl⟩
              show pG 316 113 [some (.ref 211), some (.int x1), some (.int x2), some (.int x3), some (.int x4)] [.int v114] (mjTo Z) _
              simp only [Option.some.injEq, Prod.mk.injEq] at h
              obtain ⟨rfl, rfl⟩ := h
              exact pG_ret (r := some (.int v114)) rfl ⟨rfl, rfl⟩
          · rw [if_neg hc112] at h
            refine pG_iff (t := 109) rfl rfl hc112 ?_
            refine pG_many 1 (pc1 := 102) (L1 := [some (.ref 211), some (.int x1), some (.int x2), some (.int x3), some (.int x4)]) (st1 := [.int x3]) (M1 := mjTo Z) rfl ?_
            by_cases hc116 : mjCmp .ne x3 0 = true
            · rw [if_pos hc116] at h
              refine pG_ift (t := 109) rfl rfl hc116 ?_
              refine pG_many 1 (pc1 := 110) (L1 := [some (.ref 211), some (.int x1), some (.int x2), some (.int x3), some (.int x4)]) (st1 := [.int 0]) (M1 := mjTo Z) rfl ?_
              cases hq117 : f196_truth 0 Z with
              | none => rw [hq117] at h; cases h
              | some v118 =>
                rw [hq117, mjBp_some] at h
                refine pG_call (k2 := 196) (As := [.int 0]) (rest := []) rfl (by decide) (f196_truth_ok hq117) ?_
                rintro r9 M9 ⟨rfl, rfl⟩
                show pG 316 113 [some (.ref 211), some (.int x1), some (.int x2), some (.int x3), some (.int x4)] [.int v118] (mjTo Z) _
                simp only [Option.some.injEq, Prod.mk.injEq] at h
                obtain ⟨rfl, rfl⟩ := h
                exact pG_ret (r := some (.int v118)) rfl ⟨rfl, rfl⟩
            · rw [if_neg hc116] at h
              refine pG_iff (t := 109) rfl rfl hc116 ?_
              refine pG_many 2 (pc1 := 110) (L1 := [some (.ref 211), some (.int x1), some (.int x2), some (.int x3), some (.int x4)]) (st1 := [.int 1]) (M1 := mjTo Z) rfl ?_
              cases hq120 : f196_truth 1 Z with
              | none => rw [hq120] at h; cases h
              | some v121 =>
                rw [hq120, mjBp_some] at h
                refine pG_call (k2 := 196) (As := [.int 1]) (rest := []) rfl (by decide) (f196_truth_ok hq120) ?_
                rintro r9 M9 ⟨rfl, rfl⟩
                show pG 316 113 [some (.ref 211), some (.int x1), some (.int x2), some (.int x3), some (.int x4)] [.int v121] (mjTo Z) _
                simp only [Option.some.injEq, Prod.mk.injEq] at h
                obtain ⟨rfl, rfl⟩ := h
                exact pG_ret (r := some (.int v121)) rfl ⟨rfl, rfl⟩
      · rw [if_neg hc107] at h
        refine pG_cmf (t := 89) rfl rfl hc107 ?_
        refine pG_many 1 (pc1 := 26) (L1 := [some (.ref 211), some (.int x1), some (.int x2), some (.int x3), some (.int x4)]) (st1 := [.int x2]) (M1 := mjTo Z) rfl ?_
        by_cases hc123 : mjCmp .ne x2 0 = true
        · rw [if_pos hc123] at h
          refine pG_ift (t := 38) rfl rfl hc123 ?_
          exact f316_again_j38_ok (f316_again_h16 n) (fun x1 x2 x3 x4 Z v9 Z9 h => f316_again_h16_ok n x1 x2 x3 x4 Z v9 Z9 h) x1 x3 x4 (some (.int x2)) Z v9 Z9 h
        · rw [if_neg hc123] at h
          refine pG_iff (t := 38) rfl rfl hc123 ?_
          refine pG_many 2 (pc1 := 32) (L1 := [some (.ref 211), some (.int x1), some (.int x2), some (.int x3), some (.int x4)]) (st1 := [.int x4, .ref 211]) (M1 := mjTo Z) rfl ?_
          cases hq132 : f247_isWhole x4 Z with
          | none => rw [hq132] at h; cases h
          | some v133 =>
            rw [hq132, mjBp_some] at h
            refine pG_callV (k2 := 247) (As := [.ref 211, .int x4]) (rest := []) rfl rfl rfl rfl rfl (by rfl) (by decide) (f247_isWhole_ok hq132) ?_
            rintro r9 M9 ⟨rfl, rfl⟩
            show pG 316 35 [some (.ref 211), some (.int x1), some (.int x2), some (.int x3), some (.int x4)] [.int v133] (mjTo Z) _
            by_cases hc135 : mjCmp .eq v133 0 = true
            · rw [if_pos hc135] at h
              refine pG_ift (t := 42) rfl rfl hc135 ?_
              refine pG_many 1 (pc1 := 43) (L1 := [some (.ref 211), some (.int x1), some (.int x2), some (.int x3), some (.int x4)]) (st1 := [.int 0]) (M1 := mjTo Z) rfl ?_
              exact f316_again_j43_ok (f316_again_h16 n) (fun x1 x2 x3 x4 Z v9 Z9 h => f316_again_h16_ok n x1 x2 x3 x4 Z v9 Z9 h) x1 x3 x4 0 (some (.int x2)) Z v9 Z9 h
            · rw [if_neg hc135] at h
              refine pG_iff (t := 42) rfl rfl hc135 ?_
              exact f316_again_j38_ok (f316_again_h16 n) (fun x1 x2 x3 x4 Z v9 Z9 h => f316_again_h16_ok n x1 x2 x3 x4 Z v9 Z9 h) x1 x3 x4 (some (.int x2)) Z v9 Z9 h
def f316_again  (Z : mjZt) : Option (Int32 × mjZt) :=
  mjBd (f302_laysStruck  Z) fun _ Z103 =>
  mjBp (f313_besides  Z103) fun v105 =>
  f316_again_h16 mjF v105 0 0 0 Z103
set_option maxRecDepth 4000 in
theorem f316_again_ok  {Z : mjZt} {v9 : Int32} {Z9 : mjZt} (h : f316_again  Z = some (v9, Z9)) : pG 316 0 (mjEnt [.ref 211] (mjML 316)) [] (mjTo Z) (fun r M1 => r = some (.int v9) ∧ M1 = mjTo Z9) := by
  unfold f316_again at h
  show pG 316 0 [some (.ref 211), none, none, none, none] [] (mjTo Z) _
  refine pG_many 1 (pc1 := 1) (L1 := [some (.ref 211), none, none, none, none]) (st1 := [.ref 211]) (M1 := mjTo Z) rfl ?_
  cases hq101 : f302_laysStruck  Z with
  | none => rw [hq101] at h; cases h
  | some w =>
    obtain ⟨v102, Z103⟩ := w
    rw [hq101, mjBd_some] at h
    refine pG_callV (k2 := 302) (As := [.ref 211]) (rest := []) rfl rfl rfl rfl rfl (by rfl) (by decide) (f302_laysStruck_ok hq101) ?_
    rintro r9 M9 ⟨rfl, rfl⟩
    show pG 316 4 [some (.ref 211), none, none, none, none] [] (mjTo Z103) _
    refine pG_many 1 (pc1 := 5) (L1 := [some (.ref 211), none, none, none, none]) (st1 := [.ref 211]) (M1 := mjTo Z103) rfl ?_
    cases hq104 : f313_besides  Z103 with
    | none => rw [hq104] at h; cases h
    | some v105 =>
      rw [hq104, mjBp_some] at h
      refine pG_callV (k2 := 313) (As := [.ref 211]) (rest := []) rfl rfl rfl rfl rfl (by rfl) (by decide) (f313_besides_ok hq104) ?_
      rintro r9 M9 ⟨rfl, rfl⟩
      show pG 316 8 [some (.ref 211), none, none, none, none] [.int v105] (mjTo Z103) _
      refine pG_many 7 (pc1 := 16) (L1 := [some (.ref 211), some (.int v105), some (.int 0), some (.int 0), some (.int 0)]) (st1 := []) (M1 := mjTo Z103) rfl ?_
      exact f316_again_h16_ok mjF v105 0 0 0 Z103 v9 Z9 h
def f317_winner (p0 : Int32) (Z : mjZt) : Option (Int32 × mjZt) :=
  mjBp (f270_isAct p0 Z) fun v102 =>
  if mjCmp .ne v102 0 = true then
    mjLet (zSi Z 211 59 p0) fun Z105 =>
    mjBd (f308_resultAt 0 Z105) fun v107 Z108 =>
    mjLet (zSi Z108 211 59 ((-1))) fun Z109 =>
    if mjCmp .ne v107 ((-1)) = true then
      some (v107, Z109)
    else
      some ((-2), Z109)
  else
    some ((-1), Z)
set_option maxRecDepth 4000 in
theorem f317_winner_ok {p0 : Int32} {Z : mjZt} {v9 : Int32} {Z9 : mjZt} (h : f317_winner p0 Z = some (v9, Z9)) : pG 317 0 (mjEnt [.ref 211, .int p0] (mjML 317)) [] (mjTo Z) (fun r M1 => r = some (.int v9) ∧ M1 = mjTo Z9) := by
  unfold f317_winner at h
  show pG 317 0 [some (.ref 211), some (.int p0), none] [] (mjTo Z) _
  refine pG_many 2 (pc1 := 2) (L1 := [some (.ref 211), some (.int p0), none]) (st1 := [.int p0, .ref 211]) (M1 := mjTo Z) rfl ?_
  cases hq101 : f270_isAct p0 Z with
  | none => rw [hq101] at h; cases h
  | some v102 =>
    rw [hq101, mjBp_some] at h
    refine pG_callV (k2 := 270) (As := [.ref 211, .int p0]) (rest := []) rfl rfl rfl rfl rfl (by rfl) (by decide) (f270_isAct_ok hq101) ?_
    rintro r9 M9 ⟨rfl, rfl⟩
    show pG 317 5 [some (.ref 211), some (.int p0), none] [.int v102] (mjTo Z) _
    by_cases hc104 : mjCmp .ne v102 0 = true
    · rw [if_pos hc104] at h
      refine pG_ift (t := 10) rfl rfl hc104 ?_
      refine pG_many 2 (pc1 := 12) (L1 := [some (.ref 211), some (.int p0), none]) (st1 := [.int p0, .ref 211]) (M1 := mjTo Z) rfl ?_
      refine pG_putI (ci := 12) (f := 59) rfl rfl rfl rfl (by rfl) ?_
      rw [mjLet] at h
      generalize zSi Z 211 59 p0 = Z105 at h ⊢
      refine pG_many 2 (pc1 := 17) (L1 := [some (.ref 211), some (.int p0), none]) (st1 := [.int 0, .ref 211]) (M1 := mjTo Z105) rfl ?_
      cases hq106 : f308_resultAt 0 Z105 with
      | none => rw [hq106] at h; cases h
      | some w =>
        obtain ⟨v107, Z108⟩ := w
        rw [hq106, mjBd_some] at h
        refine pG_callV (k2 := 308) (As := [.ref 211, .int 0]) (rest := []) rfl rfl rfl rfl rfl (by rfl) (by decide) (f308_resultAt_ok hq106) ?_
        rintro r9 M9 ⟨rfl, rfl⟩
        show pG 317 20 [some (.ref 211), some (.int p0), none] [.int v107] (mjTo Z108) _
        refine pG_many 3 (pc1 := 23) (L1 := [some (.ref 211), some (.int p0), some (.int v107)]) (st1 := [.int ((-1)), .ref 211]) (M1 := mjTo Z108) rfl ?_
        refine pG_putI (ci := 12) (f := 59) rfl rfl rfl rfl (by rfl) ?_
        rw [mjLet] at h
        generalize zSi Z108 211 59 ((-1)) = Z109 at h ⊢
        refine pG_many 2 (pc1 := 28) (L1 := [some (.ref 211), some (.int p0), some (.int v107)]) (st1 := [.int ((-1)), .int v107]) (M1 := mjTo Z109) rfl ?_
        by_cases hc110 : mjCmp .ne v107 ((-1)) = true
        · rw [if_pos hc110] at h
          refine pG_cmt (t := 36) rfl rfl hc110 ?_
          refine pG_many 1 (pc1 := 37) (L1 := [some (.ref 211), some (.int p0), some (.int v107)]) (st1 := [.int v107]) (M1 := mjTo Z109) rfl ?_
          simp only [Option.some.injEq, Prod.mk.injEq] at h
          obtain ⟨rfl, rfl⟩ := h
          exact pG_ret (r := some (.int v107)) rfl ⟨rfl, rfl⟩
        · rw [if_neg hc110] at h
          refine pG_cmf (t := 36) rfl rfl hc110 ?_
          refine pG_many 2 (pc1 := 37) (L1 := [some (.ref 211), some (.int p0), some (.int v107)]) (st1 := [.int ((-2))]) (M1 := mjTo Z109) rfl ?_
          simp only [Option.some.injEq, Prod.mk.injEq] at h
          obtain ⟨rfl, rfl⟩ := h
          exact pG_ret (r := some (.int ((-2)))) rfl ⟨rfl, rfl⟩
    · rw [if_neg hc104] at h
      refine pG_iff (t := 10) rfl rfl hc104 ?_
      refine pG_many 1 (pc1 := 9) (L1 := [some (.ref 211), some (.int p0), none]) (st1 := [.int ((-1))]) (M1 := mjTo Z) rfl ?_
      simp only [Option.some.injEq, Prod.mk.injEq] at h
      obtain ⟨rfl, rfl⟩ := h
      exact pG_ret (r := some (.int ((-1)))) rfl ⟨rfl, rfl⟩
def f318_isClean_h2 : Nat → Int32 → Int32 → mjZt → Option (Int32 × mjZt)
  | 0, _, _, _ => none
  | n + 1, x1, x2, Z =>
    mjBp (f251_allActs  Z) fun v102 =>
    if mjCmp .ge x2 v102 = true then
      some (1, Z)
    else
      mjBp (f274_teamOf x2 Z) fun v106 =>
      if mjCmp .ne v106 x1 = true then
        f318_isClean_h2 n x1 (x2 + 1) Z
      else
        mjBd (f298_firstRule x2 Z) fun v110 Z111 =>
        if mjCmp .eq v110 ((-1)) = true then
          f318_isClean_h2 n x1 (x2 + 1) Z111
        else
          some (0, Z111)
set_option maxRecDepth 4000 in
theorem f318_isClean_h2_ok : ∀ (n : Nat) (x1 : Int32) (x2 : Int32) (Z : mjZt) (v9 : Int32) (Z9 : mjZt), f318_isClean_h2 n x1 x2 Z = some (v9, Z9) → pG 318 2 [some (.ref 211), some (.int x1), some (.int x2)] [] (mjTo Z) (fun r M1 => r = some (.int v9) ∧ M1 = mjTo Z9)
  | 0, x1, x2, Z, v9, Z9, h => by rw [f318_isClean_h2] at h; cases h
  | n + 1, x1, x2, Z, v9, Z9, h => by
      rw [f318_isClean_h2] at h
      refine pG_many 2 (pc1 := 4) (L1 := [some (.ref 211), some (.int x1), some (.int x2)]) (st1 := [.ref 211, .int x2]) (M1 := mjTo Z) rfl ?_
      cases hq101 : f251_allActs  Z with
      | none => rw [hq101] at h; cases h
      | some v102 =>
        rw [hq101, mjBp_some] at h
        refine pG_callV (k2 := 251) (As := [.ref 211]) (rest := [.int x2]) rfl rfl rfl rfl rfl (by rfl) (by decide) (f251_allActs_ok hq101) ?_
        rintro r9 M9 ⟨rfl, rfl⟩
        show pG 318 7 [some (.ref 211), some (.int x1), some (.int x2)] [.int v102, .int x2] (mjTo Z) _
        by_cases hc104 : mjCmp .ge x2 v102 = true
        · rw [if_pos hc104] at h
          refine pG_cmt (t := 36) rfl rfl hc104 ?_
          refine pG_many 1 (pc1 := 37) (L1 := [some (.ref 211), some (.int x1), some (.int x2)]) (st1 := [.int 1]) (M1 := mjTo Z) rfl ?_
          simp only [Option.some.injEq, Prod.mk.injEq] at h
          obtain ⟨rfl, rfl⟩ := h
          exact pG_ret (r := some (.int 1)) rfl ⟨rfl, rfl⟩
        · rw [if_neg hc104] at h
          refine pG_cmf (t := 36) rfl rfl hc104 ?_
          refine pG_many 2 (pc1 := 12) (L1 := [some (.ref 211), some (.int x1), some (.int x2)]) (st1 := [.int x2, .ref 211]) (M1 := mjTo Z) rfl ?_
          cases hq105 : f274_teamOf x2 Z with
          | none => rw [hq105] at h; cases h
          | some v106 =>
            rw [hq105, mjBp_some] at h
            refine pG_callV (k2 := 274) (As := [.ref 211, .int x2]) (rest := []) rfl rfl rfl rfl rfl (by rfl) (by decide) (f274_teamOf_ok hq105) ?_
            rintro r9 M9 ⟨rfl, rfl⟩
            show pG 318 15 [some (.ref 211), some (.int x1), some (.int x2)] [.int v106] (mjTo Z) _
            refine pG_many 1 (pc1 := 16) (L1 := [some (.ref 211), some (.int x1), some (.int x2)]) (st1 := [.int x1, .int v106]) (M1 := mjTo Z) rfl ?_
            by_cases hc108 : mjCmp .ne v106 x1 = true
            · rw [if_pos hc108] at h
              refine pG_cmt (t := 30) rfl rfl hc108 ?_
              refine pG_many 2 (pc1 := 2) (L1 := [some (.ref 211), some (.int x1), some (.int (x2 + 1))]) (st1 := []) (M1 := mjTo Z) rfl ?_
              exact f318_isClean_h2_ok n x1 (x2 + 1) Z v9 Z9 h
            · rw [if_neg hc108] at h
              refine pG_cmf (t := 30) rfl rfl hc108 ?_
              refine pG_many 2 (pc1 := 21) (L1 := [some (.ref 211), some (.int x1), some (.int x2)]) (st1 := [.int x2, .ref 211]) (M1 := mjTo Z) rfl ?_
              cases hq109 : f298_firstRule x2 Z with
              | none => rw [hq109] at h; cases h
              | some w =>
                obtain ⟨v110, Z111⟩ := w
                rw [hq109, mjBd_some] at h
                refine pG_callV (k2 := 298) (As := [.ref 211, .int x2]) (rest := []) rfl rfl rfl rfl rfl (by rfl) (by decide) (f298_firstRule_ok hq109) ?_
                rintro r9 M9 ⟨rfl, rfl⟩
                show pG 318 24 [some (.ref 211), some (.int x1), some (.int x2)] [.int v110] (mjTo Z111) _
                refine pG_many 1 (pc1 := 25) (L1 := [some (.ref 211), some (.int x1), some (.int x2)]) (st1 := [.int ((-1)), .int v110]) (M1 := mjTo Z111) rfl ?_
                by_cases hc112 : mjCmp .eq v110 ((-1)) = true
                · rw [if_pos hc112] at h
                  refine pG_cmt (t := 30) rfl rfl hc112 ?_
                  refine pG_many 2 (pc1 := 2) (L1 := [some (.ref 211), some (.int x1), some (.int (x2 + 1))]) (st1 := []) (M1 := mjTo Z111) rfl ?_
                  exact f318_isClean_h2_ok n x1 (x2 + 1) Z111 v9 Z9 h
                · rw [if_neg hc112] at h
                  refine pG_cmf (t := 30) rfl rfl hc112 ?_
                  refine pG_many 1 (pc1 := 29) (L1 := [some (.ref 211), some (.int x1), some (.int x2)]) (st1 := [.int 0]) (M1 := mjTo Z111) rfl ?_
                  simp only [Option.some.injEq, Prod.mk.injEq] at h
                  obtain ⟨rfl, rfl⟩ := h
                  exact pG_ret (r := some (.int 0)) rfl ⟨rfl, rfl⟩
def f318_isClean (p0 : Int32) (Z : mjZt) : Option (Int32 × mjZt) :=
  f318_isClean_h2 mjF p0 0 Z
set_option maxRecDepth 4000 in
theorem f318_isClean_ok {p0 : Int32} {Z : mjZt} {v9 : Int32} {Z9 : mjZt} (h : f318_isClean p0 Z = some (v9, Z9)) : pG 318 0 (mjEnt [.ref 211, .int p0] (mjML 318)) [] (mjTo Z) (fun r M1 => r = some (.int v9) ∧ M1 = mjTo Z9) := by
  unfold f318_isClean at h
  show pG 318 0 [some (.ref 211), some (.int p0), none] [] (mjTo Z) _
  refine pG_many 2 (pc1 := 2) (L1 := [some (.ref 211), some (.int p0), some (.int 0)]) (st1 := []) (M1 := mjTo Z) rfl ?_
  exact f318_isClean_h2_ok mjF p0 0 Z v9 Z9 h
def f319_stays_h73 : Nat → Int32 → Int32 → Int32 → Int32 → Int32 → Int32 → mjZt → Option (Int32 × mjZt)
  | 0, _, _, _, _, _, _, _ => none
  | n + 1, x1, x2, x3, x4, x5, x6, Z =>
    if mjCmp .ge x6 ((1 : Int32) <<< (((Z.1 211 40) : Int32) &&& 31)) = true then
      mjLet (zSi Z 211 60 0) fun Z111 =>
      if mjCmp .ne x3 ((-2)) = true then
        if mjCmp .ne x2 0 = true then
          some (x3, Z111)
        else
          some (x4, Z111)
      else
        some ((-2), Z111)
    else
      if mjCmp .ne (x6 &&& x5) 0 = true then
        f319_stays_h73 n x1 x2 x3 x4 x5 (x6 + 1) Z
      else
        mjBp (f283_ones (Int32.toInt64 x6) Z) fun v116 =>
        if mjCmp .lt v116 x4 = true then
          mjLet (zSi Z 211 60 x6) fun Z119 =>
          mjBd (f318_isClean x1 Z119) fun v121 Z122 =>
          if mjCmp .ne v121 0 = true then
            mjBp (f283_ones (Int32.toInt64 x6) Z122) fun v125 =>
            f319_stays_h73 n x1 x2 x6 v125 x5 (x6 + 1) Z122
          else
            f319_stays_h73 n x1 x2 x3 x4 x5 (x6 + 1) Z122
        else
          f319_stays_h73 n x1 x2 x3 x4 x5 (x6 + 1) Z
set_option maxRecDepth 4000 in
theorem f319_stays_h73_ok : ∀ (n : Nat) (x1 : Int32) (x2 : Int32) (x3 : Int32) (x4 : Int32) (x5 : Int32) (x6 : Int32) (Z : mjZt) (v9 : Int32) (Z9 : mjZt), f319_stays_h73 n x1 x2 x3 x4 x5 x6 Z = some (v9, Z9) → pG 319 73 [some (.ref 211), some (.int x1), some (.int x2), some (.int x3), some (.int x4), some (.int x5), some (.int x6)] [] (mjTo Z) (fun r M1 => r = some (.int v9) ∧ M1 = mjTo Z9)
  | 0, x1, x2, x3, x4, x5, x6, Z, v9, Z9, h => by rw [f319_stays_h73] at h; cases h
  | n + 1, x1, x2, x3, x4, x5, x6, Z, v9, Z9, h => by
      rw [f319_stays_h73] at h
      refine pG_many 3 (pc1 := 77) (L1 := [some (.ref 211), some (.int x1), some (.int x2), some (.int x3), some (.int x4), some (.int x5), some (.int x6)]) (st1 := [.ref 211, .int 1, .int x6]) (M1 := mjTo Z) rfl ?_
      refine pG_getI (ci := 12) (f := 40) rfl rfl (Or.inl rfl) (by rfl) ?_
      refine pG_many 1 (pc1 := 81) (L1 := [some (.ref 211), some (.int x1), some (.int x2), some (.int x3), some (.int x4), some (.int x5), some (.int x6)]) (st1 := [.int ((1 : Int32) <<< (((Z.1 211 40) : Int32) &&& 31)), .int x6]) (M1 := mjTo Z) rfl ?_
      by_cases hc110 : mjCmp .ge x6 ((1 : Int32) <<< (((Z.1 211 40) : Int32) &&& 31)) = true
      · rw [if_pos hc110] at h
        refine pG_cmt (t := 140) rfl rfl hc110 ?_
        refine pG_many 2 (pc1 := 142) (L1 := [some (.ref 211), some (.int x1), some (.int x2), some (.int x3), some (.int x4), some (.int x5), some (.int x6)]) (st1 := [.int 0, .ref 211]) (M1 := mjTo Z) rfl ?_
        refine pG_putI (ci := 12) (f := 60) rfl rfl rfl rfl (by rfl) ?_
        rw [mjLet] at h
        generalize zSi Z 211 60 0 = Z111 at h ⊢
        refine pG_many 2 (pc1 := 148) (L1 := [some (.ref 211), some (.int x1), some (.int x2), some (.int x3), some (.int x4), some (.int x5), some (.int x6)]) (st1 := [.int ((-2)), .int x3]) (M1 := mjTo Z111) rfl ?_
        by_cases hc112 : mjCmp .ne x3 ((-2)) = true
        · rw [if_pos hc112] at h
          refine pG_cmt (t := 156) rfl rfl hc112 ?_
          refine pG_many 1 (pc1 := 157) (L1 := [some (.ref 211), some (.int x1), some (.int x2), some (.int x3), some (.int x4), some (.int x5), some (.int x6)]) (st1 := [.int x2]) (M1 := mjTo Z111) rfl ?_
          by_cases hc113 : mjCmp .ne x2 0 = true
          · rw [if_pos hc113] at h
            refine pG_ift (t := 165) rfl rfl hc113 ?_
            refine pG_many 1 (pc1 := 166) (L1 := [some (.ref 211), some (.int x1), some (.int x2), some (.int x3), some (.int x4), some (.int x5), some (.int x6)]) (st1 := [.int x3]) (M1 := mjTo Z111) rfl ?_
            simp only [Option.some.injEq, Prod.mk.injEq] at h
            obtain ⟨rfl, rfl⟩ := h
            exact pG_ret (r := some (.int x3)) rfl ⟨rfl, rfl⟩
          · rw [if_neg hc113] at h
            refine pG_iff (t := 165) rfl rfl hc113 ?_
            refine pG_many 2 (pc1 := 166) (L1 := [some (.ref 211), some (.int x1), some (.int x2), some (.int x3), some (.int x4), some (.int x5), some (.int x6)]) (st1 := [.int x4]) (M1 := mjTo Z111) rfl ?_
            simp only [Option.some.injEq, Prod.mk.injEq] at h
            obtain ⟨rfl, rfl⟩ := h
            exact pG_ret (r := some (.int x4)) rfl ⟨rfl, rfl⟩
        · rw [if_neg hc112] at h
          refine pG_cmf (t := 156) rfl rfl hc112 ?_
          refine pG_many 2 (pc1 := 166) (L1 := [some (.ref 211), some (.int x1), some (.int x2), some (.int x3), some (.int x4), some (.int x5), some (.int x6)]) (st1 := [.int ((-2))]) (M1 := mjTo Z111) rfl ?_
          simp only [Option.some.injEq, Prod.mk.injEq] at h
          obtain ⟨rfl, rfl⟩ := h
          exact pG_ret (r := some (.int ((-2)))) rfl ⟨rfl, rfl⟩
      · rw [if_neg hc110] at h
        refine pG_cmf (t := 140) rfl rfl hc110 ?_
        refine pG_many 3 (pc1 := 89) (L1 := [some (.ref 211), some (.int x1), some (.int x2), some (.int x3), some (.int x4), some (.int x5), some (.int x6)]) (st1 := [.int (x6 &&& x5)]) (M1 := mjTo Z) rfl ?_
        by_cases hc114 : mjCmp .ne (x6 &&& x5) 0 = true
        · rw [if_pos hc114] at h
          refine pG_ift (t := 134) rfl rfl hc114 ?_
          refine pG_many 2 (pc1 := 73) (L1 := [some (.ref 211), some (.int x1), some (.int x2), some (.int x3), some (.int x4), some (.int x5), some (.int (x6 + 1))]) (st1 := []) (M1 := mjTo Z) rfl ?_
          exact f319_stays_h73_ok n x1 x2 x3 x4 x5 (x6 + 1) Z v9 Z9 h
        · rw [if_neg hc114] at h
          refine pG_iff (t := 134) rfl rfl hc114 ?_
          refine pG_many 2 (pc1 := 95) (L1 := [some (.ref 211), some (.int x1), some (.int x2), some (.int x3), some (.int x4), some (.int x5), some (.int x6)]) (st1 := [.long (Int32.toInt64 x6)]) (M1 := mjTo Z) rfl ?_
          cases hq115 : f283_ones (Int32.toInt64 x6) Z with
          | none => rw [hq115] at h; cases h
          | some v116 =>
            rw [hq115, mjBp_some] at h
            refine pG_call (k2 := 283) (As := [.long (Int32.toInt64 x6)]) (rest := []) rfl (by decide) (f283_ones_ok hq115) ?_
            rintro r9 M9 ⟨rfl, rfl⟩
            show pG 319 98 [some (.ref 211), some (.int x1), some (.int x2), some (.int x3), some (.int x4), some (.int x5), some (.int x6)] [.int v116] (mjTo Z) _
            refine pG_many 1 (pc1 := 100) (L1 := [some (.ref 211), some (.int x1), some (.int x2), some (.int x3), some (.int x4), some (.int x5), some (.int x6)]) (st1 := [.int x4, .int v116]) (M1 := mjTo Z) rfl ?_
            by_cases hc118 : mjCmp .lt v116 x4 = true
            · rw [if_pos hc118] at h
              refine pG_cmt (t := 106) rfl rfl hc118 ?_
              refine pG_many 2 (pc1 := 109) (L1 := [some (.ref 211), some (.int x1), some (.int x2), some (.int x3), some (.int x4), some (.int x5), some (.int x6)]) (st1 := [.int x6, .ref 211]) (M1 := mjTo Z) rfl ?_
              refine pG_putI (ci := 12) (f := 60) rfl rfl rfl rfl (by rfl) ?_
              rw [mjLet] at h
              generalize zSi Z 211 60 x6 = Z119 at h ⊢
              refine pG_many 2 (pc1 := 114) (L1 := [some (.ref 211), some (.int x1), some (.int x2), some (.int x3), some (.int x4), some (.int x5), some (.int x6)]) (st1 := [.int x1, .ref 211]) (M1 := mjTo Z119) rfl ?_
              cases hq120 : f318_isClean x1 Z119 with
              | none => rw [hq120] at h; cases h
              | some w =>
                obtain ⟨v121, Z122⟩ := w
                rw [hq120, mjBd_some] at h
                refine pG_callV (k2 := 318) (As := [.ref 211, .int x1]) (rest := []) rfl rfl rfl rfl rfl (by rfl) (by decide) (f318_isClean_ok hq120) ?_
                rintro r9 M9 ⟨rfl, rfl⟩
                show pG 319 117 [some (.ref 211), some (.int x1), some (.int x2), some (.int x3), some (.int x4), some (.int x5), some (.int x6)] [.int v121] (mjTo Z122) _
                by_cases hc123 : mjCmp .ne v121 0 = true
                · rw [if_pos hc123] at h
                  refine pG_ift (t := 123) rfl rfl hc123 ?_
                  refine pG_many 2 (pc1 := 126) (L1 := [some (.ref 211), some (.int x1), some (.int x2), some (.int x3), some (.int x4), some (.int x5), some (.int x6)]) (st1 := [.long (Int32.toInt64 x6)]) (M1 := mjTo Z122) rfl ?_
                  cases hq124 : f283_ones (Int32.toInt64 x6) Z122 with
                  | none => rw [hq124] at h; cases h
                  | some v125 =>
                    rw [hq124, mjBp_some] at h
                    refine pG_call (k2 := 283) (As := [.long (Int32.toInt64 x6)]) (rest := []) rfl (by decide) (f283_ones_ok hq124) ?_
                    rintro r9 M9 ⟨rfl, rfl⟩
                    show pG 319 129 [some (.ref 211), some (.int x1), some (.int x2), some (.int x3), some (.int x4), some (.int x5), some (.int x6)] [.int v125] (mjTo Z122) _
                    refine pG_many 5 (pc1 := 73) (L1 := [some (.ref 211), some (.int x1), some (.int x2), some (.int x6), some (.int v125), some (.int x5), some (.int (x6 + 1))]) (st1 := []) (M1 := mjTo Z122) rfl ?_
                    exact f319_stays_h73_ok n x1 x2 x6 v125 x5 (x6 + 1) Z122 v9 Z9 h
                · rw [if_neg hc123] at h
                  refine pG_iff (t := 123) rfl rfl hc123 ?_
                  refine pG_many 3 (pc1 := 73) (L1 := [some (.ref 211), some (.int x1), some (.int x2), some (.int x3), some (.int x4), some (.int x5), some (.int (x6 + 1))]) (st1 := []) (M1 := mjTo Z122) rfl ?_
                  exact f319_stays_h73_ok n x1 x2 x3 x4 x5 (x6 + 1) Z122 v9 Z9 h
            · rw [if_neg hc118] at h
              refine pG_cmf (t := 106) rfl rfl hc118 ?_
              refine pG_many 3 (pc1 := 73) (L1 := [some (.ref 211), some (.int x1), some (.int x2), some (.int x3), some (.int x4), some (.int x5), some (.int (x6 + 1))]) (st1 := []) (M1 := mjTo Z) rfl ?_
              exact f319_stays_h73_ok n x1 x2 x3 x4 x5 (x6 + 1) Z v9 Z9 h
def f319_stays_h33 : Nat → Int32 → Int32 → Int32 → Int32 → Int32 → Int32 → mjZt → Option (Int32 × mjZt)
  | 0, _, _, _, _, _, _, _ => none
  | n + 1, x1, x2, x3, x4, x5, x6, Z =>
    if mjCmp .ge x6 (Z.1 211 40) = true then
      f319_stays_h73 mjF x1 x2 x3 x4 x5 0 Z
    else
      if mjIn ((72 + (3 * x6)) + 2) 108 = true then
      mjLet (x5 ||| (((Z.1 239 (mjIx ((72 + (3 * x6)) + 2))) : Int32) <<< ((x6 : Int32) &&& 31)) : Int32) fun x_128 =>
      f319_stays_h33 n x1 x2 x3 x4 x_128 (x6 + 1) Z
      else none
set_option maxRecDepth 4000 in
theorem f319_stays_h33_ok : ∀ (n : Nat) (x1 : Int32) (x2 : Int32) (x3 : Int32) (x4 : Int32) (x5 : Int32) (x6 : Int32) (Z : mjZt) (v9 : Int32) (Z9 : mjZt), f319_stays_h33 n x1 x2 x3 x4 x5 x6 Z = some (v9, Z9) → pG 319 33 [some (.ref 211), some (.int x1), some (.int x2), some (.int x3), some (.int x4), some (.int x5), some (.int x6)] [] (mjTo Z) (fun r M1 => r = some (.int v9) ∧ M1 = mjTo Z9)
  | 0, x1, x2, x3, x4, x5, x6, Z, v9, Z9, h => by rw [f319_stays_h33] at h; cases h
  | n + 1, x1, x2, x3, x4, x5, x6, Z, v9, Z9, h => by
      rw [f319_stays_h33] at h
      refine pG_many 2 (pc1 := 36) (L1 := [some (.ref 211), some (.int x1), some (.int x2), some (.int x3), some (.int x4), some (.int x5), some (.int x6)]) (st1 := [.ref 211, .int x6]) (M1 := mjTo Z) rfl ?_
      refine pG_getI (ci := 12) (f := 40) rfl rfl (Or.inl rfl) (by rfl) ?_
      by_cases hc109 : mjCmp .ge x6 (Z.1 211 40) = true
      · rw [if_pos hc109] at h
        refine pG_cmt (t := 70) rfl rfl hc109 ?_
        refine pG_many 2 (pc1 := 73) (L1 := [some (.ref 211), some (.int x1), some (.int x2), some (.int x3), some (.int x4), some (.int x5), some (.int 0)]) (st1 := []) (M1 := mjTo Z) rfl ?_
        exact f319_stays_h73_ok mjF x1 x2 x3 x4 x5 0 Z v9 Z9 h
      · rw [if_neg hc109] at h
        refine pG_cmf (t := 70) rfl rfl hc109 ?_
        refine pG_many 2 (pc1 := 45) (L1 := [some (.ref 211), some (.int x1), some (.int x2), some (.int x3), some (.int x4), some (.int x5), some (.int x6)]) (st1 := [.ref 211, .int x5]) (M1 := mjTo Z) rfl ?_
        refine pG_getR (ci := 12) (f := 54) (b := 239) rfl rfl rfl (by rfl) rfl ?_
        refine pG_many 7 (pc1 := 57) (L1 := [some (.ref 211), some (.int x1), some (.int x2), some (.int x3), some (.int x4), some (.int x5), some (.int x6)]) (st1 := [.int ((72 + (3 * x6)) + 2), .ref 239, .int x5]) (M1 := mjTo Z) rfl ?_
        have hk127 : mjIn ((72 + (3 * x6)) + 2) 108 = true := by
          by_cases q9 : mjIn ((72 + (3 * x6)) + 2) 108 = true
          · exact q9
          · rw [if_neg q9] at h; cases h
        rw [if_pos hk127] at h
        refine pG_ial rfl (by rfl) hk127 ?_
        refine pG_many 4 (pc1 := 64) (L1 := [some (.ref 211), some (.int x1), some (.int x2), some (.int x3), some (.int x4), some (.int (x5 ||| (((Z.1 239 (mjIx ((72 + (3 * x6)) + 2))) : Int32) <<< ((x6 : Int32) &&& 31)))), some (.int x6)]) (st1 := []) (M1 := mjTo Z) rfl ?_
        rw [mjLet] at h
        generalize (x5 ||| (((Z.1 239 (mjIx ((72 + (3 * x6)) + 2))) : Int32) <<< ((x6 : Int32) &&& 31)) : Int32) = x_128 at h ⊢
        refine pG_many 2 (pc1 := 33) (L1 := [some (.ref 211), some (.int x1), some (.int x2), some (.int x3), some (.int x4), some (.int x_128), some (.int (x6 + 1))]) (st1 := []) (M1 := mjTo Z) rfl ?_
        exact f319_stays_h33_ok n x1 x2 x3 x4 x_128 (x6 + 1) Z v9 Z9 h
def f319_stays (p0 : Int32) (p1 : Int32) (Z : mjZt) : Option (Int32 × mjZt) :=
  mjBp (f240_isTeam p0 Z) fun v102 =>
  if mjCmp .eq v102 0 = true then
    some ((-1), Z)
  else
    mjBp (f195_isIn (Int32.toInt64 p1) 0 1 Z) fun v106 =>
    if mjCmp .ne v106 0 = true then
      f319_stays_h33 mjF p0 p1 ((-2)) 13 0 0 Z
    else
      some ((-1), Z)
set_option maxRecDepth 4000 in
theorem f319_stays_ok {p0 : Int32} {p1 : Int32} {Z : mjZt} {v9 : Int32} {Z9 : mjZt} (h : f319_stays p0 p1 Z = some (v9, Z9)) : pG 319 0 (mjEnt [.ref 211, .int p0, .int p1] (mjML 319)) [] (mjTo Z) (fun r M1 => r = some (.int v9) ∧ M1 = mjTo Z9) := by
  unfold f319_stays at h
  show pG 319 0 [some (.ref 211), some (.int p0), some (.int p1), none, none, none, none] [] (mjTo Z) _
  refine pG_many 2 (pc1 := 2) (L1 := [some (.ref 211), some (.int p0), some (.int p1), none, none, none, none]) (st1 := [.int p0, .ref 211]) (M1 := mjTo Z) rfl ?_
  cases hq101 : f240_isTeam p0 Z with
  | none => rw [hq101] at h; cases h
  | some v102 =>
    rw [hq101, mjBp_some] at h
    refine pG_callV (k2 := 240) (As := [.ref 211, .int p0]) (rest := []) rfl rfl rfl rfl rfl (by rfl) (by decide) (f240_isTeam_ok hq101) ?_
    rintro r9 M9 ⟨rfl, rfl⟩
    show pG 319 5 [some (.ref 211), some (.int p0), some (.int p1), none, none, none, none] [.int v102] (mjTo Z) _
    by_cases hc104 : mjCmp .eq v102 0 = true
    · rw [if_pos hc104] at h
      refine pG_ift (t := 18) rfl rfl hc104 ?_
      refine pG_many 1 (pc1 := 19) (L1 := [some (.ref 211), some (.int p0), some (.int p1), none, none, none, none]) (st1 := [.int ((-1))]) (M1 := mjTo Z) rfl ?_
      simp only [Option.some.injEq, Prod.mk.injEq] at h
      obtain ⟨rfl, rfl⟩ := h
      exact pG_ret (r := some (.int ((-1)))) rfl ⟨rfl, rfl⟩
    · rw [if_neg hc104] at h
      refine pG_iff (t := 18) rfl rfl hc104 ?_
      refine pG_many 4 (pc1 := 12) (L1 := [some (.ref 211), some (.int p0), some (.int p1), none, none, none, none]) (st1 := [.long 1, .long 0, .long (Int32.toInt64 p1)]) (M1 := mjTo Z) rfl ?_
      cases hq105 : f195_isIn (Int32.toInt64 p1) 0 1 Z with
      | none => rw [hq105] at h; cases h
      | some v106 =>
        rw [hq105, mjBp_some] at h
        refine pG_call (k2 := 195) (As := [.long (Int32.toInt64 p1), .long 0, .long 1]) (rest := []) rfl (by decide) (f195_isIn_ok hq105) ?_
        rintro r9 M9 ⟨rfl, rfl⟩
        show pG 319 15 [some (.ref 211), some (.int p0), some (.int p1), none, none, none, none] [.int v106] (mjTo Z) _
        by_cases hc108 : mjCmp .ne v106 0 = true
        · rw [if_pos hc108] at h
          refine pG_ift (t := 20) rfl rfl hc108 ?_
          refine pG_many 8 (pc1 := 33) (L1 := [some (.ref 211), some (.int p0), some (.int p1), some (.int ((-2))), some (.int 13), some (.int 0), some (.int 0)]) (st1 := []) (M1 := mjTo Z) rfl ?_
          exact f319_stays_h33_ok mjF p0 p1 ((-2)) 13 0 0 Z v9 Z9 h
        · rw [if_neg hc108] at h
          refine pG_iff (t := 20) rfl rfl hc108 ?_
          refine pG_many 1 (pc1 := 19) (L1 := [some (.ref 211), some (.int p0), some (.int p1), none, none, none, none]) (st1 := [.int ((-1))]) (M1 := mjTo Z) rfl ?_
          simp only [Option.some.injEq, Prod.mk.injEq] at h
          obtain ⟨rfl, rfl⟩ := h
          exact pG_ret (r := some (.int ((-1)))) rfl ⟨rfl, rfl⟩
def f320_appeal_j42 (x1 : Int32) (x2 : Int32) (x3 : Int32) (s0 : Int64) (s1 : Int64) (s2 : Int64) (Z : mjZt) : Option (Int32 × mjZt) :=
  mjBp (f195_isIn s0 s1 s2 Z) fun v111 =>
  if mjCmp .ne v111 0 = true then
    if mjIn ((72 + (3 * x1)) + x2) 108 = true then
    if mjCmp .ne (Z.1 239 (mjIx ((72 + (3 * x1)) + x2))) x3 = true then
      mjBd (f238_keeps  Z) fun _ Z118 =>
      mjLet (zSi Z118 239 (mjIx ((72 + (3 * x1)) + x2)) x3) fun Z119 =>
      some (Z.1 239 (mjIx ((72 + (3 * x1)) + x2)), Z119)
    else
      some ((-1), Z)
    else none
  else
    some ((-1), Z)
set_option maxRecDepth 4000 in
theorem f320_appeal_j42_ok (x1 : Int32) (x2 : Int32) (x3 : Int32) (s0 : Int64) (s1 : Int64) (s2 : Int64) (d4 : Option Value) (Z : mjZt) (v9 : Int32) (Z9 : mjZt) (h : f320_appeal_j42 x1 x2 x3 s0 s1 s2 Z = some (v9, Z9)) : pG 320 42 [some (.ref 211), some (.int x1), some (.int x2), some (.int x3), d4] [.long s2, .long s1, .long s0] (mjTo Z) (fun r M1 => r = some (.int v9) ∧ M1 = mjTo Z9) := by
  unfold f320_appeal_j42 at h
  cases hq110 : f195_isIn s0 s1 s2 Z with
  | none => rw [hq110] at h; cases h
  | some v111 =>
    rw [hq110, mjBp_some] at h
    refine pG_call (k2 := 195) (As := [.long s0, .long s1, .long s2]) (rest := []) rfl (by decide) (f195_isIn_ok hq110) ?_
    rintro r9 M9 ⟨rfl, rfl⟩
    show pG 320 45 [some (.ref 211), some (.int x1), some (.int x2), some (.int x3), d4] [.int v111] (mjTo Z) _
    by_cases hc113 : mjCmp .ne v111 0 = true
    · rw [if_pos hc113] at h
      refine pG_ift (t := 50) rfl rfl hc113 ?_
      refine pG_many 1 (pc1 := 51) (L1 := [some (.ref 211), some (.int x1), some (.int x2), some (.int x3), d4]) (st1 := [.ref 211]) (M1 := mjTo Z) rfl ?_
      refine pG_getR (ci := 12) (f := 54) (b := 239) rfl rfl rfl (by rfl) rfl ?_
      refine pG_many 7 (pc1 := 62) (L1 := [some (.ref 211), some (.int x1), some (.int x2), some (.int x3), d4]) (st1 := [.int ((72 + (3 * x1)) + x2), .ref 239]) (M1 := mjTo Z) rfl ?_
      have hk114 : mjIn ((72 + (3 * x1)) + x2) 108 = true := by
        by_cases q9 : mjIn ((72 + (3 * x1)) + x2) 108 = true
        · exact q9
        · rw [if_neg q9] at h; cases h
      rw [if_pos hk114] at h
      refine pG_ial rfl (by rfl) hk114 ?_
      refine pG_many 3 (pc1 := 68) (L1 := [some (.ref 211), some (.int x1), some (.int x2), some (.int x3), some (.int (Z.1 239 (mjIx ((72 + (3 * x1)) + x2))))]) (st1 := [.int x3, .int (Z.1 239 (mjIx ((72 + (3 * x1)) + x2)))]) (M1 := mjTo Z) rfl ?_
      by_cases hc115 : mjCmp .ne (Z.1 239 (mjIx ((72 + (3 * x1)) + x2))) x3 = true
      · rw [if_pos hc115] at h
        refine pG_cmt (t := 73) rfl rfl hc115 ?_
        refine pG_many 1 (pc1 := 74) (L1 := [some (.ref 211), some (.int x1), some (.int x2), some (.int x3), some (.int (Z.1 239 (mjIx ((72 + (3 * x1)) + x2))))]) (st1 := [.ref 211]) (M1 := mjTo Z) rfl ?_
        cases hq116 : f238_keeps  Z with
        | none => rw [hq116] at h; cases h
        | some w =>
          obtain ⟨v117, Z118⟩ := w
          rw [hq116, mjBd_some] at h
          refine pG_callV (k2 := 238) (As := [.ref 211]) (rest := []) rfl rfl rfl rfl rfl (by rfl) (by decide) (f238_keeps_ok hq116) ?_
          rintro r9 M9 ⟨rfl, rfl⟩
          show pG 320 77 [some (.ref 211), some (.int x1), some (.int x2), some (.int x3), some (.int (Z.1 239 (mjIx ((72 + (3 * x1)) + x2))))] [] (mjTo Z118) _
          refine pG_many 1 (pc1 := 78) (L1 := [some (.ref 211), some (.int x1), some (.int x2), some (.int x3), some (.int (Z.1 239 (mjIx ((72 + (3 * x1)) + x2))))]) (st1 := [.ref 211]) (M1 := mjTo Z118) rfl ?_
          refine pG_getR (ci := 12) (f := 54) (b := 239) rfl rfl rfl (by rfl) rfl ?_
          refine pG_many 8 (pc1 := 90) (L1 := [some (.ref 211), some (.int x1), some (.int x2), some (.int x3), some (.int (Z.1 239 (mjIx ((72 + (3 * x1)) + x2))))]) (st1 := [.int x3, .int ((72 + (3 * x1)) + x2), .ref 239]) (M1 := mjTo Z118) rfl ?_
          refine pG_ias rfl (by rfl) hk114 (?_ : pG 320 91 [some (.ref 211), some (.int x1), some (.int x2), some (.int x3), some (.int (Z.1 239 (mjIx ((72 + (3 * x1)) + x2))))] [] (mjTo (zSi Z118 239 (mjIx ((72 + (3 * x1)) + x2)) x3)) _)
          rw [mjLet] at h
          generalize zSi Z118 239 (mjIx ((72 + (3 * x1)) + x2)) x3 = Z119 at h ⊢
          refine pG_many 1 (pc1 := 93) (L1 := [some (.ref 211), some (.int x1), some (.int x2), some (.int x3), some (.int (Z.1 239 (mjIx ((72 + (3 * x1)) + x2))))]) (st1 := [.int (Z.1 239 (mjIx ((72 + (3 * x1)) + x2)))]) (M1 := mjTo Z119) rfl ?_
          simp only [Option.some.injEq, Prod.mk.injEq] at h
          obtain ⟨rfl, rfl⟩ := h
          exact pG_ret (r := some (.int (Z.1 239 (mjIx ((72 + (3 * x1)) + x2))))) rfl ⟨rfl, rfl⟩
      · rw [if_neg hc115] at h
        refine pG_cmf (t := 73) rfl rfl hc115 ?_
        refine pG_many 1 (pc1 := 72) (L1 := [some (.ref 211), some (.int x1), some (.int x2), some (.int x3), some (.int (Z.1 239 (mjIx ((72 + (3 * x1)) + x2))))]) (st1 := [.int ((-1))]) (M1 := mjTo Z) rfl ?_
        simp only [Option.some.injEq, Prod.mk.injEq] at h
        obtain ⟨rfl, rfl⟩ := h
        exact pG_ret (r := some (.int ((-1)))) rfl ⟨rfl, rfl⟩
    · rw [if_neg hc113] at h
      refine pG_iff (t := 50) rfl rfl hc113 ?_
      refine pG_many 1 (pc1 := 49) (L1 := [some (.ref 211), some (.int x1), some (.int x2), some (.int x3), d4]) (st1 := [.int ((-1))]) (M1 := mjTo Z) rfl ?_
      simp only [Option.some.injEq, Prod.mk.injEq] at h
      obtain ⟨rfl, rfl⟩ := h
      exact pG_ret (r := some (.int ((-1)))) rfl ⟨rfl, rfl⟩
def f320_appeal (p0 : Int32) (p1 : Int32) (p2 : Int32) (Z : mjZt) : Option (Int32 × mjZt) :=
  mjBp (f195_isIn (Int32.toInt64 p0) 0 (Int32.toInt64 ((Z.1 211 40) - 1)) Z) fun v102 =>
  if mjCmp .eq v102 0 = true then
    some ((-1), Z)
  else
    mjBp (f195_isIn (Int32.toInt64 p1) 0 1 Z) fun v106 =>
    if mjCmp .eq v106 0 = true then
      some ((-1), Z)
    else
      if mjCmp .ne p1 0 = true then
        f320_appeal_j42 p0 p1 p2 (Int32.toInt64 p2) 0 99 Z
      else
        f320_appeal_j42 p0 p1 p2 (Int32.toInt64 p2) 0 9999 Z
set_option maxRecDepth 4000 in
theorem f320_appeal_ok {p0 : Int32} {p1 : Int32} {p2 : Int32} {Z : mjZt} {v9 : Int32} {Z9 : mjZt} (h : f320_appeal p0 p1 p2 Z = some (v9, Z9)) : pG 320 0 (mjEnt [.ref 211, .int p0, .int p1, .int p2] (mjML 320)) [] (mjTo Z) (fun r M1 => r = some (.int v9) ∧ M1 = mjTo Z9) := by
  unfold f320_appeal at h
  show pG 320 0 [some (.ref 211), some (.int p0), some (.int p1), some (.int p2), none] [] (mjTo Z) _
  refine pG_many 4 (pc1 := 4) (L1 := [some (.ref 211), some (.int p0), some (.int p1), some (.int p2), none]) (st1 := [.ref 211, .long 0, .long (Int32.toInt64 p0)]) (M1 := mjTo Z) rfl ?_
  refine pG_getI (ci := 12) (f := 40) rfl rfl (Or.inl rfl) (by rfl) ?_
  refine pG_many 3 (pc1 := 10) (L1 := [some (.ref 211), some (.int p0), some (.int p1), some (.int p2), none]) (st1 := [.long (Int32.toInt64 ((Z.1 211 40) - 1)), .long 0, .long (Int32.toInt64 p0)]) (M1 := mjTo Z) rfl ?_
  cases hq101 : f195_isIn (Int32.toInt64 p0) 0 (Int32.toInt64 ((Z.1 211 40) - 1)) Z with
  | none => rw [hq101] at h; cases h
  | some v102 =>
    rw [hq101, mjBp_some] at h
    refine pG_call (k2 := 195) (As := [.long (Int32.toInt64 p0), .long 0, .long (Int32.toInt64 ((Z.1 211 40) - 1))]) (rest := []) rfl (by decide) (f195_isIn_ok hq101) ?_
    rintro r9 M9 ⟨rfl, rfl⟩
    show pG 320 13 [some (.ref 211), some (.int p0), some (.int p1), some (.int p2), none] [.int v102] (mjTo Z) _
    by_cases hc104 : mjCmp .eq v102 0 = true
    · rw [if_pos hc104] at h
      refine pG_ift (t := 48) rfl rfl hc104 ?_
      refine pG_many 1 (pc1 := 49) (L1 := [some (.ref 211), some (.int p0), some (.int p1), some (.int p2), none]) (st1 := [.int ((-1))]) (M1 := mjTo Z) rfl ?_
      simp only [Option.some.injEq, Prod.mk.injEq] at h
      obtain ⟨rfl, rfl⟩ := h
      exact pG_ret (r := some (.int ((-1)))) rfl ⟨rfl, rfl⟩
    · rw [if_neg hc104] at h
      refine pG_iff (t := 48) rfl rfl hc104 ?_
      refine pG_many 4 (pc1 := 20) (L1 := [some (.ref 211), some (.int p0), some (.int p1), some (.int p2), none]) (st1 := [.long 1, .long 0, .long (Int32.toInt64 p1)]) (M1 := mjTo Z) rfl ?_
      cases hq105 : f195_isIn (Int32.toInt64 p1) 0 1 Z with
      | none => rw [hq105] at h; cases h
      | some v106 =>
        rw [hq105, mjBp_some] at h
        refine pG_call (k2 := 195) (As := [.long (Int32.toInt64 p1), .long 0, .long 1]) (rest := []) rfl (by decide) (f195_isIn_ok hq105) ?_
        rintro r9 M9 ⟨rfl, rfl⟩
        show pG 320 23 [some (.ref 211), some (.int p0), some (.int p1), some (.int p2), none] [.int v106] (mjTo Z) _
        by_cases hc108 : mjCmp .eq v106 0 = true
        · rw [if_pos hc108] at h
          refine pG_ift (t := 48) rfl rfl hc108 ?_
          refine pG_many 1 (pc1 := 49) (L1 := [some (.ref 211), some (.int p0), some (.int p1), some (.int p2), none]) (st1 := [.int ((-1))]) (M1 := mjTo Z) rfl ?_
          simp only [Option.some.injEq, Prod.mk.injEq] at h
          obtain ⟨rfl, rfl⟩ := h
          exact pG_ret (r := some (.int ((-1)))) rfl ⟨rfl, rfl⟩
        · rw [if_neg hc108] at h
          refine pG_iff (t := 48) rfl rfl hc108 ?_
          refine pG_many 4 (pc1 := 30) (L1 := [some (.ref 211), some (.int p0), some (.int p1), some (.int p2), none]) (st1 := [.int p1, .long 0, .long (Int32.toInt64 p2)]) (M1 := mjTo Z) rfl ?_
          by_cases hc109 : mjCmp .ne p1 0 = true
          · rw [if_pos hc109] at h
            refine pG_ift (t := 39) rfl rfl hc109 ?_
            refine pG_many 1 (pc1 := 42) (L1 := [some (.ref 211), some (.int p0), some (.int p1), some (.int p2), none]) (st1 := [.long 99, .long 0, .long (Int32.toInt64 p2)]) (M1 := mjTo Z) rfl ?_
            exact f320_appeal_j42_ok p0 p1 p2 (Int32.toInt64 p2) 0 99 none Z v9 Z9 h
          · rw [if_neg hc109] at h
            refine pG_iff (t := 39) rfl rfl hc109 ?_
            refine pG_many 2 (pc1 := 42) (L1 := [some (.ref 211), some (.int p0), some (.int p1), some (.int p2), none]) (st1 := [.long 9999, .long 0, .long (Int32.toInt64 p2)]) (M1 := mjTo Z) rfl ?_
            exact f320_appeal_j42_ok p0 p1 p2 (Int32.toInt64 p2) 0 9999 none Z v9 Z9 h
def f321_waive (p0 : Int32) (Z : mjZt) : Option (Int32 × mjZt) :=
  mjBp (f195_isIn (Int32.toInt64 p0) 0 (Int32.toInt64 ((Z.1 211 40) - 1)) Z) fun v102 =>
  if mjCmp .ne v102 0 = true then
    mjBd (f238_keeps  Z) fun _ Z107 =>
    if mjIn ((72 + (3 * p0)) + 2) 108 = true then
    mjLet (zSi Z107 239 (mjIx ((72 + (3 * p0)) + 2)) (1 - (Z107.1 239 (mjIx ((72 + (3 * p0)) + 2))))) fun Z109 =>
    some (Z109.1 239 (mjIx ((72 + (3 * p0)) + 2)), Z109)
    else none
  else
    some ((-1), Z)
set_option maxRecDepth 4000 in
theorem f321_waive_ok {p0 : Int32} {Z : mjZt} {v9 : Int32} {Z9 : mjZt} (h : f321_waive p0 Z = some (v9, Z9)) : pG 321 0 (mjEnt [.ref 211, .int p0] (mjML 321)) [] (mjTo Z) (fun r M1 => r = some (.int v9) ∧ M1 = mjTo Z9) := by
  unfold f321_waive at h
  show pG 321 0 [some (.ref 211), some (.int p0)] [] (mjTo Z) _
  refine pG_many 4 (pc1 := 4) (L1 := [some (.ref 211), some (.int p0)]) (st1 := [.ref 211, .long 0, .long (Int32.toInt64 p0)]) (M1 := mjTo Z) rfl ?_
  refine pG_getI (ci := 12) (f := 40) rfl rfl (Or.inl rfl) (by rfl) ?_
  refine pG_many 3 (pc1 := 10) (L1 := [some (.ref 211), some (.int p0)]) (st1 := [.long (Int32.toInt64 ((Z.1 211 40) - 1)), .long 0, .long (Int32.toInt64 p0)]) (M1 := mjTo Z) rfl ?_
  cases hq101 : f195_isIn (Int32.toInt64 p0) 0 (Int32.toInt64 ((Z.1 211 40) - 1)) Z with
  | none => rw [hq101] at h; cases h
  | some v102 =>
    rw [hq101, mjBp_some] at h
    refine pG_call (k2 := 195) (As := [.long (Int32.toInt64 p0), .long 0, .long (Int32.toInt64 ((Z.1 211 40) - 1))]) (rest := []) rfl (by decide) (f195_isIn_ok hq101) ?_
    rintro r9 M9 ⟨rfl, rfl⟩
    show pG 321 13 [some (.ref 211), some (.int p0)] [.int v102] (mjTo Z) _
    by_cases hc104 : mjCmp .ne v102 0 = true
    · rw [if_pos hc104] at h
      refine pG_ift (t := 18) rfl rfl hc104 ?_
      refine pG_many 1 (pc1 := 19) (L1 := [some (.ref 211), some (.int p0)]) (st1 := [.ref 211]) (M1 := mjTo Z) rfl ?_
      cases hq105 : f238_keeps  Z with
      | none => rw [hq105] at h; cases h
      | some w =>
        obtain ⟨v106, Z107⟩ := w
        rw [hq105, mjBd_some] at h
        refine pG_callV (k2 := 238) (As := [.ref 211]) (rest := []) rfl rfl rfl rfl rfl (by rfl) (by decide) (f238_keeps_ok hq105) ?_
        rintro r9 M9 ⟨rfl, rfl⟩
        show pG 321 22 [some (.ref 211), some (.int p0)] [] (mjTo Z107) _
        refine pG_many 1 (pc1 := 23) (L1 := [some (.ref 211), some (.int p0)]) (st1 := [.ref 211]) (M1 := mjTo Z107) rfl ?_
        refine pG_getR (ci := 12) (f := 54) (b := 239) rfl rfl rfl (by rfl) rfl ?_
        refine pG_many 9 (pc1 := 36) (L1 := [some (.ref 211), some (.int p0)]) (st1 := [.ref 211, .int 1, .int ((72 + (3 * p0)) + 2), .ref 239]) (M1 := mjTo Z107) rfl ?_
        refine pG_getR (ci := 12) (f := 54) (b := 239) rfl rfl rfl (by rfl) rfl ?_
        refine pG_many 7 (pc1 := 47) (L1 := [some (.ref 211), some (.int p0)]) (st1 := [.int ((72 + (3 * p0)) + 2), .ref 239, .int 1, .int ((72 + (3 * p0)) + 2), .ref 239]) (M1 := mjTo Z107) rfl ?_
        have hk108 : mjIn ((72 + (3 * p0)) + 2) 108 = true := by
          by_cases q9 : mjIn ((72 + (3 * p0)) + 2) 108 = true
          · exact q9
          · rw [if_neg q9] at h; cases h
        rw [if_pos hk108] at h
        refine pG_ial rfl (by rfl) hk108 ?_
        refine pG_many 1 (pc1 := 49) (L1 := [some (.ref 211), some (.int p0)]) (st1 := [.int (1 - (Z107.1 239 (mjIx ((72 + (3 * p0)) + 2)))), .int ((72 + (3 * p0)) + 2), .ref 239]) (M1 := mjTo Z107) rfl ?_
        refine pG_ias rfl (by rfl) hk108 (?_ : pG 321 50 [some (.ref 211), some (.int p0)] [] (mjTo (zSi Z107 239 (mjIx ((72 + (3 * p0)) + 2)) (1 - (Z107.1 239 (mjIx ((72 + (3 * p0)) + 2)))))) _)
        rw [mjLet] at h
        generalize zSi Z107 239 (mjIx ((72 + (3 * p0)) + 2)) (1 - (Z107.1 239 (mjIx ((72 + (3 * p0)) + 2)))) = Z109 at h ⊢
        refine pG_many 1 (pc1 := 51) (L1 := [some (.ref 211), some (.int p0)]) (st1 := [.ref 211]) (M1 := mjTo Z109) rfl ?_
        refine pG_getR (ci := 12) (f := 54) (b := 239) rfl rfl rfl (by rfl) rfl ?_
        refine pG_many 7 (pc1 := 62) (L1 := [some (.ref 211), some (.int p0)]) (st1 := [.int ((72 + (3 * p0)) + 2), .ref 239]) (M1 := mjTo Z109) rfl ?_
        refine pG_ial rfl (by rfl) hk108 ?_
        simp only [Option.some.injEq, Prod.mk.injEq] at h
        obtain ⟨rfl, rfl⟩ := h
        exact pG_ret (r := some (.int (Z109.1 239 (mjIx ((72 + (3 * p0)) + 2))))) rfl ⟨rfl, rfl⟩
    · rw [if_neg hc104] at h
      refine pG_iff (t := 18) rfl rfl hc104 ?_
      refine pG_many 1 (pc1 := 17) (L1 := [some (.ref 211), some (.int p0)]) (st1 := [.int ((-1))]) (M1 := mjTo Z) rfl ?_
      simp only [Option.some.injEq, Prod.mk.injEq] at h
      obtain ⟨rfl, rfl⟩ := h
      exact pG_ret (r := some (.int ((-1)))) rfl ⟨rfl, rfl⟩
def f322_measure_j104 (x1 : Int32) (x3 : Int32) (x4 : Int32) (x6 : Int32) (Z : mjZt) : Option (Int32 × mjZt) :=
  mjBd (f238_keeps  Z) fun _ Z125 =>
  if mjIn ((12 * x1) + (2 * x6)) 108 = true then
  mjLet (zSi Z125 239 (mjIx ((12 * x1) + (2 * x6))) x3) fun Z127 =>
  if mjIn (((12 * x1) + (2 * x6)) + 1) 108 = true then
  mjLet (zSi Z127 239 (mjIx (((12 * x1) + (2 * x6)) + 1)) x4) fun Z129 =>
  mjBp (f246_timeOf x1 Z129) fun v131 =>
  some (v131, Z129)
  else none
  else none
set_option maxRecDepth 4000 in
theorem f322_measure_j104_ok (x1 : Int32) (x3 : Int32) (x4 : Int32) (x6 : Int32) (d2 d5 : Option Value) (Z : mjZt) (v9 : Int32) (Z9 : mjZt) (h : f322_measure_j104 x1 x3 x4 x6 Z = some (v9, Z9)) : pG 322 104 [some (.ref 211), some (.int x1), d2, some (.int x3), some (.int x4), d5, some (.int x6)] [] (mjTo Z) (fun r M1 => r = some (.int v9) ∧ M1 = mjTo Z9) := by
  unfold f322_measure_j104 at h
  refine pG_many 1 (pc1 := 105) (L1 := [some (.ref 211), some (.int x1), d2, some (.int x3), some (.int x4), d5, some (.int x6)]) (st1 := [.ref 211]) (M1 := mjTo Z) rfl ?_
  cases hq123 : f238_keeps  Z with
  | none => rw [hq123] at h; cases h
  | some w =>
    obtain ⟨v124, Z125⟩ := w
    rw [hq123, mjBd_some] at h
    refine pG_callV (k2 := 238) (As := [.ref 211]) (rest := []) rfl rfl rfl rfl rfl (by rfl) (by decide) (f238_keeps_ok hq123) ?_
    rintro r9 M9 ⟨rfl, rfl⟩
    show pG 322 108 [some (.ref 211), some (.int x1), d2, some (.int x3), some (.int x4), d5, some (.int x6)] [] (mjTo Z125) _
    refine pG_many 1 (pc1 := 109) (L1 := [some (.ref 211), some (.int x1), d2, some (.int x3), some (.int x4), d5, some (.int x6)]) (st1 := [.ref 211]) (M1 := mjTo Z125) rfl ?_
    refine pG_getR (ci := 12) (f := 54) (b := 239) rfl rfl rfl (by rfl) rfl ?_
    refine pG_many 8 (pc1 := 122) (L1 := [some (.ref 211), some (.int x1), d2, some (.int x3), some (.int x4), d5, some (.int x6)]) (st1 := [.int x3, .int ((12 * x1) + (2 * x6)), .ref 239]) (M1 := mjTo Z125) rfl ?_
    have hk126 : mjIn ((12 * x1) + (2 * x6)) 108 = true := by
      by_cases q9 : mjIn ((12 * x1) + (2 * x6)) 108 = true
      · exact q9
      · rw [if_neg q9] at h; cases h
    rw [if_pos hk126] at h
    refine pG_ias rfl (by rfl) hk126 (?_ : pG 322 123 [some (.ref 211), some (.int x1), d2, some (.int x3), some (.int x4), d5, some (.int x6)] [] (mjTo (zSi Z125 239 (mjIx ((12 * x1) + (2 * x6))) x3)) _)
    rw [mjLet] at h
    generalize zSi Z125 239 (mjIx ((12 * x1) + (2 * x6))) x3 = Z127 at h ⊢
    refine pG_many 1 (pc1 := 124) (L1 := [some (.ref 211), some (.int x1), d2, some (.int x3), some (.int x4), d5, some (.int x6)]) (st1 := [.ref 211]) (M1 := mjTo Z127) rfl ?_
    refine pG_getR (ci := 12) (f := 54) (b := 239) rfl rfl rfl (by rfl) rfl ?_
    refine pG_many 10 (pc1 := 140) (L1 := [some (.ref 211), some (.int x1), d2, some (.int x3), some (.int x4), d5, some (.int x6)]) (st1 := [.int x4, .int (((12 * x1) + (2 * x6)) + 1), .ref 239]) (M1 := mjTo Z127) rfl ?_
    have hk128 : mjIn (((12 * x1) + (2 * x6)) + 1) 108 = true := by
      by_cases q9 : mjIn (((12 * x1) + (2 * x6)) + 1) 108 = true
      · exact q9
      · rw [if_neg q9] at h; cases h
    rw [if_pos hk128] at h
    refine pG_ias rfl (by rfl) hk128 (?_ : pG 322 141 [some (.ref 211), some (.int x1), d2, some (.int x3), some (.int x4), d5, some (.int x6)] [] (mjTo (zSi Z127 239 (mjIx (((12 * x1) + (2 * x6)) + 1)) x4)) _)
    rw [mjLet] at h
    generalize zSi Z127 239 (mjIx (((12 * x1) + (2 * x6)) + 1)) x4 = Z129 at h ⊢
    refine pG_many 2 (pc1 := 143) (L1 := [some (.ref 211), some (.int x1), d2, some (.int x3), some (.int x4), d5, some (.int x6)]) (st1 := [.int x1, .ref 211]) (M1 := mjTo Z129) rfl ?_
    cases hq130 : f246_timeOf x1 Z129 with
    | none => rw [hq130] at h; cases h
    | some v131 =>
      rw [hq130, mjBp_some] at h
      refine pG_callV (k2 := 246) (As := [.ref 211, .int x1]) (rest := []) rfl rfl rfl rfl rfl (by rfl) (by decide) (f246_timeOf_ok hq130) ?_
      rintro r9 M9 ⟨rfl, rfl⟩
      show pG 322 146 [some (.ref 211), some (.int x1), d2, some (.int x3), some (.int x4), d5, some (.int x6)] [.int v131] (mjTo Z129) _
      simp only [Option.some.injEq, Prod.mk.injEq] at h
      obtain ⟨rfl, rfl⟩ := h
      exact pG_ret (r := some (.int v131)) rfl ⟨rfl, rfl⟩
def f322_measure_j56 (x1 : Int32) (x2 : Int32) (x3 : Int32) (x4 : Int32) (s0 : Int32) (Z : mjZt) : Option (Int32 × mjZt) :=
  mjBp (f195_isIn (Int32.toInt64 x4) (Int32.toInt64 (-s0)) (Int32.toInt64 s0) Z) fun v116 =>
  if mjCmp .eq v116 0 = true then
    some ((-1), Z)
  else
    mjBp (f242_tenthsOf x1 (x2 - 1) Z) fun v120 =>
    if mjCmp .ne v120 x3 = true then
      f322_measure_j104 x1 x3 x4 (x2 - 1) Z
    else
      mjBp (f243_metresOf x1 (x2 - 1) Z) fun v134 =>
      if mjCmp .ne v134 x4 = true then
        f322_measure_j104 x1 x3 x4 (x2 - 1) Z
      else
        some ((-1), Z)
set_option maxRecDepth 4000 in
theorem f322_measure_j56_ok (x1 : Int32) (x2 : Int32) (x3 : Int32) (x4 : Int32) (s0 : Int32) (d5 d6 : Option Value) (Z : mjZt) (v9 : Int32) (Z9 : mjZt) (h : f322_measure_j56 x1 x2 x3 x4 s0 Z = some (v9, Z9)) : pG 322 56 [some (.ref 211), some (.int x1), some (.int x2), some (.int x3), some (.int x4), d5, d6] [.int s0] (mjTo Z) (fun r M1 => r = some (.int v9) ∧ M1 = mjTo Z9) := by
  unfold f322_measure_j56 at h
  refine pG_many 12 (pc1 := 73) (L1 := [some (.ref 211), some (.int x1), some (.int x2), some (.int x3), some (.int x4), some (.int s0), some (.int (x2 - 1))]) (st1 := [.long (Int32.toInt64 s0), .long (Int32.toInt64 (-s0)), .long (Int32.toInt64 x4)]) (M1 := mjTo Z) rfl ?_
  cases hq115 : f195_isIn (Int32.toInt64 x4) (Int32.toInt64 (-s0)) (Int32.toInt64 s0) Z with
  | none => rw [hq115] at h; cases h
  | some v116 =>
    rw [hq115, mjBp_some] at h
    refine pG_call (k2 := 195) (As := [.long (Int32.toInt64 x4), .long (Int32.toInt64 (-s0)), .long (Int32.toInt64 s0)]) (rest := []) rfl (by decide) (f195_isIn_ok hq115) ?_
    rintro r9 M9 ⟨rfl, rfl⟩
    show pG 322 76 [some (.ref 211), some (.int x1), some (.int x2), some (.int x3), some (.int x4), some (.int s0), some (.int (x2 - 1))] [.int v116] (mjTo Z) _
    by_cases hc118 : mjCmp .eq v116 0 = true
    · rw [if_pos hc118] at h
      refine pG_ift (t := 102) rfl rfl hc118 ?_
      refine pG_many 1 (pc1 := 103) (L1 := [some (.ref 211), some (.int x1), some (.int x2), some (.int x3), some (.int x4), some (.int s0), some (.int (x2 - 1))]) (st1 := [.int ((-1))]) (M1 := mjTo Z) rfl ?_
      simp only [Option.some.injEq, Prod.mk.injEq] at h
      obtain ⟨rfl, rfl⟩ := h
      exact pG_ret (r := some (.int ((-1)))) rfl ⟨rfl, rfl⟩
    · rw [if_neg hc118] at h
      refine pG_iff (t := 102) rfl rfl hc118 ?_
      refine pG_many 3 (pc1 := 83) (L1 := [some (.ref 211), some (.int x1), some (.int x2), some (.int x3), some (.int x4), some (.int s0), some (.int (x2 - 1))]) (st1 := [.int (x2 - 1), .int x1, .ref 211]) (M1 := mjTo Z) rfl ?_
      cases hq119 : f242_tenthsOf x1 (x2 - 1) Z with
      | none => rw [hq119] at h; cases h
      | some v120 =>
        rw [hq119, mjBp_some] at h
        refine pG_callV (k2 := 242) (As := [.ref 211, .int x1, .int (x2 - 1)]) (rest := []) rfl rfl rfl rfl rfl (by rfl) (by decide) (f242_tenthsOf_ok hq119) ?_
        rintro r9 M9 ⟨rfl, rfl⟩
        show pG 322 86 [some (.ref 211), some (.int x1), some (.int x2), some (.int x3), some (.int x4), some (.int s0), some (.int (x2 - 1))] [.int v120] (mjTo Z) _
        refine pG_many 1 (pc1 := 87) (L1 := [some (.ref 211), some (.int x1), some (.int x2), some (.int x3), some (.int x4), some (.int s0), some (.int (x2 - 1))]) (st1 := [.int x3, .int v120]) (M1 := mjTo Z) rfl ?_
        by_cases hc122 : mjCmp .ne v120 x3 = true
        · rw [if_pos hc122] at h
          refine pG_cmt (t := 104) rfl rfl hc122 ?_
          exact f322_measure_j104_ok x1 x3 x4 (x2 - 1) (some (.int x2)) (some (.int s0)) Z v9 Z9 h
        · rw [if_neg hc122] at h
          refine pG_cmf (t := 104) rfl rfl hc122 ?_
          refine pG_many 3 (pc1 := 94) (L1 := [some (.ref 211), some (.int x1), some (.int x2), some (.int x3), some (.int x4), some (.int s0), some (.int (x2 - 1))]) (st1 := [.int (x2 - 1), .int x1, .ref 211]) (M1 := mjTo Z) rfl ?_
          cases hq133 : f243_metresOf x1 (x2 - 1) Z with
          | none => rw [hq133] at h; cases h
          | some v134 =>
            rw [hq133, mjBp_some] at h
            refine pG_callV (k2 := 243) (As := [.ref 211, .int x1, .int (x2 - 1)]) (rest := []) rfl rfl rfl rfl rfl (by rfl) (by decide) (f243_metresOf_ok hq133) ?_
            rintro r9 M9 ⟨rfl, rfl⟩
            show pG 322 97 [some (.ref 211), some (.int x1), some (.int x2), some (.int x3), some (.int x4), some (.int s0), some (.int (x2 - 1))] [.int v134] (mjTo Z) _
            refine pG_many 1 (pc1 := 99) (L1 := [some (.ref 211), some (.int x1), some (.int x2), some (.int x3), some (.int x4), some (.int s0), some (.int (x2 - 1))]) (st1 := [.int x4, .int v134]) (M1 := mjTo Z) rfl ?_
            by_cases hc136 : mjCmp .ne v134 x4 = true
            · rw [if_pos hc136] at h
              refine pG_cmt (t := 104) rfl rfl hc136 ?_
              exact f322_measure_j104_ok x1 x3 x4 (x2 - 1) (some (.int x2)) (some (.int s0)) Z v9 Z9 h
            · rw [if_neg hc136] at h
              refine pG_cmf (t := 104) rfl rfl hc136 ?_
              refine pG_many 1 (pc1 := 103) (L1 := [some (.ref 211), some (.int x1), some (.int x2), some (.int x3), some (.int x4), some (.int s0), some (.int (x2 - 1))]) (st1 := [.int ((-1))]) (M1 := mjTo Z) rfl ?_
              simp only [Option.some.injEq, Prod.mk.injEq] at h
              obtain ⟨rfl, rfl⟩ := h
              exact pG_ret (r := some (.int ((-1)))) rfl ⟨rfl, rfl⟩
def f322_measure (p0 : Int32) (p1 : Int32) (p2 : Int32) (p3 : Int32) (Z : mjZt) : Option (Int32 × mjZt) :=
  mjBp (f240_isTeam p0 Z) fun v102 =>
  if mjCmp .eq v102 0 = true then
    some ((-1), Z)
  else
    if mjIn p0 6 = true then
    mjBp (f195_isIn (Int32.toInt64 p1) 1 (Int32.toInt64 (Z.1 231 (mjIx p0))) Z) fun v107 =>
    if mjCmp .eq v107 0 = true then
      some ((-1), Z)
    else
      mjBp (f195_isIn (Int32.toInt64 p2) 20 999 Z) fun v111 =>
      if mjCmp .ne v111 0 = true then
        if mjCmp .ne p1 (Z.1 229 0) = true then
          f322_measure_j56 p0 p1 p2 p3 20 Z
        else
          f322_measure_j56 p0 p1 p2 p3 0 Z
      else
        some ((-1), Z)
    else none
set_option maxRecDepth 4000 in
theorem f322_measure_ok {p0 : Int32} {p1 : Int32} {p2 : Int32} {p3 : Int32} {Z : mjZt} {v9 : Int32} {Z9 : mjZt} (h : f322_measure p0 p1 p2 p3 Z = some (v9, Z9)) : pG 322 0 (mjEnt [.ref 211, .int p0, .int p1, .int p2, .int p3] (mjML 322)) [] (mjTo Z) (fun r M1 => r = some (.int v9) ∧ M1 = mjTo Z9) := by
  unfold f322_measure at h
  show pG 322 0 [some (.ref 211), some (.int p0), some (.int p1), some (.int p2), some (.int p3), none, none] [] (mjTo Z) _
  refine pG_many 2 (pc1 := 2) (L1 := [some (.ref 211), some (.int p0), some (.int p1), some (.int p2), some (.int p3), none, none]) (st1 := [.int p0, .ref 211]) (M1 := mjTo Z) rfl ?_
  cases hq101 : f240_isTeam p0 Z with
  | none => rw [hq101] at h; cases h
  | some v102 =>
    rw [hq101, mjBp_some] at h
    refine pG_callV (k2 := 240) (As := [.ref 211, .int p0]) (rest := []) rfl rfl rfl rfl rfl (by rfl) (by decide) (f240_isTeam_ok hq101) ?_
    rintro r9 M9 ⟨rfl, rfl⟩
    show pG 322 5 [some (.ref 211), some (.int p0), some (.int p1), some (.int p2), some (.int p3), none, none] [.int v102] (mjTo Z) _
    by_cases hc104 : mjCmp .eq v102 0 = true
    · rw [if_pos hc104] at h
      refine pG_ift (t := 38) rfl rfl hc104 ?_
      refine pG_many 1 (pc1 := 39) (L1 := [some (.ref 211), some (.int p0), some (.int p1), some (.int p2), some (.int p3), none, none]) (st1 := [.int ((-1))]) (M1 := mjTo Z) rfl ?_
      simp only [Option.some.injEq, Prod.mk.injEq] at h
      obtain ⟨rfl, rfl⟩ := h
      exact pG_ret (r := some (.int ((-1)))) rfl ⟨rfl, rfl⟩
    · rw [if_neg hc104] at h
      refine pG_iff (t := 38) rfl rfl hc104 ?_
      refine pG_many 4 (pc1 := 12) (L1 := [some (.ref 211), some (.int p0), some (.int p1), some (.int p2), some (.int p3), none, none]) (st1 := [.ref 211, .long 1, .long (Int32.toInt64 p1)]) (M1 := mjTo Z) rfl ?_
      refine pG_getR (ci := 12) (f := 46) (b := 231) rfl rfl rfl (by rfl) rfl ?_
      refine pG_many 1 (pc1 := 16) (L1 := [some (.ref 211), some (.int p0), some (.int p1), some (.int p2), some (.int p3), none, none]) (st1 := [.int p0, .ref 231, .long 1, .long (Int32.toInt64 p1)]) (M1 := mjTo Z) rfl ?_
      have hk105 : mjIn p0 6 = true := by
        by_cases q9 : mjIn p0 6 = true
        · exact q9
        · rw [if_neg q9] at h; cases h
      rw [if_pos hk105] at h
      refine pG_ial rfl (by rfl) hk105 ?_
      refine pG_many 1 (pc1 := 18) (L1 := [some (.ref 211), some (.int p0), some (.int p1), some (.int p2), some (.int p3), none, none]) (st1 := [.long (Int32.toInt64 (Z.1 231 (mjIx p0))), .long 1, .long (Int32.toInt64 p1)]) (M1 := mjTo Z) rfl ?_
      cases hq106 : f195_isIn (Int32.toInt64 p1) 1 (Int32.toInt64 (Z.1 231 (mjIx p0))) Z with
      | none => rw [hq106] at h; cases h
      | some v107 =>
        rw [hq106, mjBp_some] at h
        refine pG_call (k2 := 195) (As := [.long (Int32.toInt64 p1), .long 1, .long (Int32.toInt64 (Z.1 231 (mjIx p0)))]) (rest := []) rfl (by decide) (f195_isIn_ok hq106) ?_
        rintro r9 M9 ⟨rfl, rfl⟩
        show pG 322 21 [some (.ref 211), some (.int p0), some (.int p1), some (.int p2), some (.int p3), none, none] [.int v107] (mjTo Z) _
        by_cases hc109 : mjCmp .eq v107 0 = true
        · rw [if_pos hc109] at h
          refine pG_ift (t := 38) rfl rfl hc109 ?_
          refine pG_many 1 (pc1 := 39) (L1 := [some (.ref 211), some (.int p0), some (.int p1), some (.int p2), some (.int p3), none, none]) (st1 := [.int ((-1))]) (M1 := mjTo Z) rfl ?_
          simp only [Option.some.injEq, Prod.mk.injEq] at h
          obtain ⟨rfl, rfl⟩ := h
          exact pG_ret (r := some (.int ((-1)))) rfl ⟨rfl, rfl⟩
        · rw [if_neg hc109] at h
          refine pG_iff (t := 38) rfl rfl hc109 ?_
          refine pG_many 4 (pc1 := 32) (L1 := [some (.ref 211), some (.int p0), some (.int p1), some (.int p2), some (.int p3), none, none]) (st1 := [.long 999, .long 20, .long (Int32.toInt64 p2)]) (M1 := mjTo Z) rfl ?_
          cases hq110 : f195_isIn (Int32.toInt64 p2) 20 999 Z with
          | none => rw [hq110] at h; cases h
          | some v111 =>
            rw [hq110, mjBp_some] at h
            refine pG_call (k2 := 195) (As := [.long (Int32.toInt64 p2), .long 20, .long 999]) (rest := []) rfl (by decide) (f195_isIn_ok hq110) ?_
            rintro r9 M9 ⟨rfl, rfl⟩
            show pG 322 35 [some (.ref 211), some (.int p0), some (.int p1), some (.int p2), some (.int p3), none, none] [.int v111] (mjTo Z) _
            by_cases hc113 : mjCmp .ne v111 0 = true
            · rw [if_pos hc113] at h
              refine pG_ift (t := 40) rfl rfl hc113 ?_
              refine pG_many 2 (pc1 := 42) (L1 := [some (.ref 211), some (.int p0), some (.int p1), some (.int p2), some (.int p3), none, none]) (st1 := [.ref 211, .int p1]) (M1 := mjTo Z) rfl ?_
              refine pG_getR (ci := 12) (f := 44) (b := 229) rfl rfl rfl (by rfl) rfl ?_
              refine pG_many 1 (pc1 := 46) (L1 := [some (.ref 211), some (.int p0), some (.int p1), some (.int p2), some (.int p3), none, none]) (st1 := [.int 0, .ref 229, .int p1]) (M1 := mjTo Z) rfl ?_
              refine pG_ial rfl (by rfl) (by decide) ?_
              by_cases hc114 : mjCmp .ne p1 (Z.1 229 0) = true
              · rw [if_pos hc114] at h
                refine pG_cmt (t := 54) rfl rfl hc114 ?_
                refine pG_many 1 (pc1 := 56) (L1 := [some (.ref 211), some (.int p0), some (.int p1), some (.int p2), some (.int p3), none, none]) (st1 := [.int 20]) (M1 := mjTo Z) rfl ?_
                exact f322_measure_j56_ok p0 p1 p2 p3 20 none none Z v9 Z9 h
              · rw [if_neg hc114] at h
                refine pG_cmf (t := 54) rfl rfl hc114 ?_
                refine pG_many 2 (pc1 := 56) (L1 := [some (.ref 211), some (.int p0), some (.int p1), some (.int p2), some (.int p3), none, none]) (st1 := [.int 0]) (M1 := mjTo Z) rfl ?_
                exact f322_measure_j56_ok p0 p1 p2 p3 0 none none Z v9 Z9 h
            · rw [if_neg hc113] at h
              refine pG_iff (t := 40) rfl rfl hc113 ?_
              refine pG_many 1 (pc1 := 39) (L1 := [some (.ref 211), some (.int p0), some (.int p1), some (.int p2), some (.int p3), none, none]) (st1 := [.int ((-1))]) (M1 := mjTo Z) rfl ?_
              simp only [Option.some.injEq, Prod.mk.injEq] at h
              obtain ⟨rfl, rfl⟩ := h
              exact pG_ret (r := some (.int ((-1)))) rfl ⟨rfl, rfl⟩
