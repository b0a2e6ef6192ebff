def f224_test_j124 (R : Int32 → mjZt → Option (Unit × mjZt)) (s0 : Int32) (Z : mjZt) : Option (Unit × mjZt) :=
  if mjCmp .eq s0 0 = true then
    R s0 Z
  else
    mjBd (f220_closes 41 Z) fun _ Z130 =>
    mjBd (f222_ends  Z130) fun _ Z133 =>
    R s0 Z133
theorem f224_test_j124_ok (R : Int32 → mjZt → Option (Unit × mjZt)) (hR : ∀ (x1 : Int32) (Z : mjZt) (v9 : Unit) (Z9 : mjZt), R x1 Z = some (v9, Z9) → pG 224 21 [some (.ref 211), some (.int x1)] [] (mjTo Z) (fun r M1 => r = none ∧ M1 = mjTo Z9)) (s0 : Int32) (d1 : Option Value) (Z : mjZt) (v9 : Unit) (Z9 : mjZt) (h : f224_test_j124 R s0 Z = some (v9, Z9)) : pG 224 124 [some (.ref 211), d1] [.int s0] (mjTo Z) (fun r M1 => r = none ∧ M1 = mjTo Z9) := by
  unfold f224_test_j124 at h
  refine pG_many 2 (pc1 := 126) (L1 := [some (.ref 211), some (.int s0)]) (st1 := [.int s0]) (M1 := mjTo Z) rfl ?_
  by_cases hc127 : mjCmp .eq s0 0 = true
  · rw [if_pos hc127] at h
    refine pG_ift (t := 21) rfl rfl hc127 ?_
    exact hR s0 Z v9 Z9 h
  · rw [if_neg hc127] at h
    refine pG_iff (t := 21) rfl rfl hc127 ?_
    refine pG_many 2 (pc1 := 132) (L1 := [some (.ref 211), some (.int s0)]) (st1 := [.int 41, .ref 211]) (M1 := mjTo Z) rfl ?_
    cases hq128 : f220_closes 41 Z with
    | none => rw [hq128] at h; cases h
    | some w =>
      obtain ⟨v129, Z130⟩ := w
      rw [hq128, mjBd_some] at h
      refine pG_callV (k2 := 220) (As := [.ref 211, .int 41]) (rest := []) rfl rfl rfl rfl rfl (by rfl) (by decide) (f220_closes_ok hq128) ?_
      rintro r9 M9 ⟨rfl, rfl⟩
      show pG 224 135 [some (.ref 211), some (.int s0)] [] (mjTo Z130) _
      refine pG_many 1 (pc1 := 136) (L1 := [some (.ref 211), some (.int s0)]) (st1 := [.ref 211]) (M1 := mjTo Z130) rfl ?_
      cases hq131 : f222_ends  Z130 with
      | none => rw [hq131] at h; cases h
      | some w =>
        obtain ⟨v132, Z133⟩ := w
        rw [hq131, mjBd_some] at h
        refine pG_callV (k2 := 222) (As := [.ref 211]) (rest := []) rfl rfl rfl rfl rfl (by rfl) (by decide) (f222_ends_ok hq131) ?_
        rintro r9 M9 ⟨rfl, rfl⟩
        show pG 224 139 [some (.ref 211), some (.int s0)] [] (mjTo Z133) _
        refine pG_many 1 (pc1 := 21) (L1 := [some (.ref 211), some (.int s0)]) (st1 := []) (M1 := mjTo Z133) rfl ?_
        exact hR s0 Z133 v9 Z9 h
def f224_test_h21 : Nat → Int32 → mjZt → Option (Unit × mjZt)
  | 0, _, _ => none
  | n + 1, x1, Z =>
    mjBp (f207_isGood  Z) fun v108 =>
    if mjCmp .eq v108 0 = true then
      some ((), Z)
    else
      if mjCmp .eq x1 0 = true then
        some ((), Z)
      else
        mjBp (f208_isWord 6385252 Z) fun v113 =>
        if mjCmp .eq v113 0 = true then
          mjBp (f208_isWord 28530 Z) fun v117 =>
          if mjCmp .eq v117 0 = true then
            mjBd (f218_works 41 42 Z) fun _ Z122 =>
            mjBp (f216_top  Z122) fun v124 =>
            if mjCmp .ne v124 50 = true then
              f224_test_j124 (f224_test_h21 n) 0 Z122
            else
              f224_test_j124 (f224_test_h21 n) 1 Z122
          else
            mjBd (f218_works 41 42 Z) fun _ Z136 =>
            mjBd (f215_waitsFor 42 Z136) fun _ Z139 =>
            mjBd (f205_goOn  Z139) fun _ Z142 =>
            mjBd (f223_comparison  Z142) fun _ Z145 =>
            f224_test_h21 n x1 Z145
        else
          mjBd (f218_works 41 41 Z) fun _ Z148 =>
          mjBd (f215_waitsFor 41 Z148) fun _ Z151 =>
          mjBd (f205_goOn  Z151) fun _ Z154 =>
          mjBd (f223_comparison  Z154) fun _ Z157 =>
          f224_test_h21 n x1 Z157
theorem f224_test_h21_ok : ∀ (n : Nat) (x1 : Int32) (Z : mjZt) (v9 : Unit) (Z9 : mjZt), f224_test_h21 n x1 Z = some (v9, Z9) → pG 224 21 [some (.ref 211), some (.int x1)] [] (mjTo Z) (fun r M1 => r = none ∧ M1 = mjTo Z9)
  | 0, x1, Z, v9, Z9, h => by rw [f224_test_h21] at h; cases h
  | n + 1, x1, Z, v9, Z9, h => by
      rw [f224_test_h21] at h
      refine pG_many 1 (pc1 := 22) (L1 := [some (.ref 211), some (.int x1)]) (st1 := [.ref 211]) (M1 := mjTo Z) rfl ?_
      cases hq107 : f207_isGood  Z with
      | none => rw [hq107] at h; cases h
      | some v108 =>
        rw [hq107, mjBp_some] at h
        refine pG_callV (k2 := 207) (As := [.ref 211]) (rest := []) rfl rfl rfl rfl rfl (by rfl) (by decide) (f207_isGood_ok hq107) ?_
        rintro r9 M9 ⟨rfl, rfl⟩
        show pG 224 25 [some (.ref 211), some (.int x1)] [.int v108] (mjTo Z) _
        by_cases hc110 : mjCmp .eq v108 0 = true
        · rw [if_pos hc110] at h
          refine pG_ift (t := 142) rfl rfl hc110 ?_
          simp only [Option.some.injEq, Prod.mk.injEq] at h
          obtain ⟨-, rfl⟩ := h
          exact pG_ret (r := none) rfl ⟨rfl, rfl⟩
        · rw [if_neg hc110] at h
          refine pG_iff (t := 142) rfl rfl hc110 ?_
          refine pG_many 1 (pc1 := 29) (L1 := [some (.ref 211), some (.int x1)]) (st1 := [.int x1]) (M1 := mjTo Z) rfl ?_
          by_cases hc111 : mjCmp .eq x1 0 = true
          · rw [if_pos hc111] at h
            refine pG_ift (t := 142) rfl rfl hc111 ?_
            simp only [Option.some.injEq, Prod.mk.injEq] at h
            obtain ⟨-, rfl⟩ := h
            exact pG_ret (r := none) rfl ⟨rfl, rfl⟩
          · rw [if_neg hc111] at h
            refine pG_iff (t := 142) rfl rfl hc111 ?_
            refine pG_many 2 (pc1 := 36) (L1 := [some (.ref 211), some (.int x1)]) (st1 := [.long 6385252, .ref 211]) (M1 := mjTo Z) rfl ?_
            cases hq112 : f208_isWord 6385252 Z with
            | none => rw [hq112] at h; cases h
            | some v113 =>
              rw [hq112, mjBp_some] at h
              refine pG_callV (k2 := 208) (As := [.ref 211, .long 6385252]) (rest := []) rfl rfl rfl rfl rfl (by rfl) (by decide) (f208_isWord_ok hq112) ?_
              rintro r9 M9 ⟨rfl, rfl⟩
              show pG 224 39 [some (.ref 211), some (.int x1)] [.int v113] (mjTo Z) _
              by_cases hc115 : mjCmp .eq v113 0 = true
              · rw [if_pos hc115] at h
                refine pG_ift (t := 67) rfl rfl hc115 ?_
                refine pG_many 2 (pc1 := 71) (L1 := [some (.ref 211), some (.int x1)]) (st1 := [.long 28530, .ref 211]) (M1 := mjTo Z) rfl ?_
                cases hq116 : f208_isWord 28530 Z with
                | none => rw [hq116] at h; cases h
                | some v117 =>
                  rw [hq116, mjBp_some] at h
                  refine pG_callV (k2 := 208) (As := [.ref 211, .long 28530]) (rest := []) rfl rfl rfl rfl rfl (by rfl) (by decide) (f208_isWord_ok hq116) ?_
                  rintro r9 M9 ⟨rfl, rfl⟩
                  show pG 224 74 [some (.ref 211), some (.int x1)] [.int v117] (mjTo Z) _
                  by_cases hc119 : mjCmp .eq v117 0 = true
                  · rw [if_pos hc119] at h
                    refine pG_ift (t := 102) rfl rfl hc119 ?_
                    refine pG_many 3 (pc1 := 107) (L1 := [some (.ref 211), some (.int x1)]) (st1 := [.int 42, .int 41, .ref 211]) (M1 := mjTo Z) rfl ?_
                    cases hq120 : f218_works 41 42 Z with
                    | none => rw [hq120] at h; cases h
                    | some w =>
                      obtain ⟨v121, Z122⟩ := w
                      rw [hq120, mjBd_some] at h
                      refine pG_callV (k2 := 218) (As := [.ref 211, .int 41, .int 42]) (rest := []) rfl rfl rfl rfl rfl (by rfl) (by decide) (f218_works_ok hq120) ?_
                      rintro r9 M9 ⟨rfl, rfl⟩
                      show pG 224 110 [some (.ref 211), some (.int x1)] [] (mjTo Z122) _
                      refine pG_many 1 (pc1 := 111) (L1 := [some (.ref 211), some (.int x1)]) (st1 := [.ref 211]) (M1 := mjTo Z122) rfl ?_
                      cases hq123 : f216_top  Z122 with
                      | none => rw [hq123] at h; cases h
                      | some v124 =>
                        rw [hq123, mjBp_some] at h
                        refine pG_callV (k2 := 216) (As := [.ref 211]) (rest := []) rfl rfl rfl rfl rfl (by rfl) (by decide) (f216_top_ok hq123) ?_
                        rintro r9 M9 ⟨rfl, rfl⟩
                        show pG 224 114 [some (.ref 211), some (.int x1)] [.int v124] (mjTo Z122) _
                        refine pG_many 1 (pc1 := 116) (L1 := [some (.ref 211), some (.int x1)]) (st1 := [.int 50, .int v124]) (M1 := mjTo Z122) rfl ?_
                        by_cases hc126 : mjCmp .ne v124 50 = true
                        · rw [if_pos hc126] at h
                          refine pG_cmt (t := 123) rfl rfl hc126 ?_
                          refine pG_many 1 (pc1 := 124) (L1 := [some (.ref 211), some (.int x1)]) (st1 := [.int 0]) (M1 := mjTo Z122) rfl ?_
                          exact f224_test_j124_ok (f224_test_h21 n) (fun x1 Z v9 Z9 h => f224_test_h21_ok n x1 Z v9 Z9 h) 0 (some (.int x1)) Z122 v9 Z9 h
                        · rw [if_neg hc126] at h
                          refine pG_cmf (t := 123) rfl rfl hc126 ?_
                          refine pG_many 2 (pc1 := 124) (L1 := [some (.ref 211), some (.int x1)]) (st1 := [.int 1]) (M1 := mjTo Z122) rfl ?_
                          exact f224_test_j124_ok (f224_test_h21 n) (fun x1 Z v9 Z9 h => f224_test_h21_ok n x1 Z v9 Z9 h) 1 (some (.int x1)) Z122 v9 Z9 h
                  · rw [if_neg hc119] at h
                    refine pG_iff (t := 102) rfl rfl hc119 ?_
                    refine pG_many 3 (pc1 := 82) (L1 := [some (.ref 211), some (.int x1)]) (st1 := [.int 42, .int 41, .ref 211]) (M1 := mjTo Z) rfl ?_
                    cases hq134 : f218_works 41 42 Z with
                    | none => rw [hq134] at h; cases h
                    | some w =>
                      obtain ⟨v135, Z136⟩ := w
                      rw [hq134, mjBd_some] at h
                      refine pG_callV (k2 := 218) (As := [.ref 211, .int 41, .int 42]) (rest := []) rfl rfl rfl rfl rfl (by rfl) (by decide) (f218_works_ok hq134) ?_
                      rintro r9 M9 ⟨rfl, rfl⟩
                      show pG 224 85 [some (.ref 211), some (.int x1)] [] (mjTo Z136) _
                      refine pG_many 2 (pc1 := 88) (L1 := [some (.ref 211), some (.int x1)]) (st1 := [.int 42, .ref 211]) (M1 := mjTo Z136) rfl ?_
                      cases hq137 : f215_waitsFor 42 Z136 with
                      | none => rw [hq137] at h; cases h
                      | some w =>
                        obtain ⟨v138, Z139⟩ := w
                        rw [hq137, mjBd_some] at h
                        refine pG_callV (k2 := 215) (As := [.ref 211, .int 42]) (rest := []) rfl rfl rfl rfl rfl (by rfl) (by decide) (f215_waitsFor_ok hq137) ?_
                        rintro r9 M9 ⟨rfl, rfl⟩
                        show pG 224 91 [some (.ref 211), some (.int x1)] [] (mjTo Z139) _
                        refine pG_many 1 (pc1 := 92) (L1 := [some (.ref 211), some (.int x1)]) (st1 := [.ref 211]) (M1 := mjTo Z139) rfl ?_
                        cases hq140 : f205_goOn  Z139 with
                        | none => rw [hq140] at h; cases h
                        | some w =>
                          obtain ⟨v141, Z142⟩ := w
                          rw [hq140, mjBd_some] at h
                          refine pG_callV (k2 := 205) (As := [.ref 211]) (rest := []) rfl rfl rfl rfl rfl (by rfl) (by decide) (f205_goOn_ok hq140) ?_
                          rintro r9 M9 ⟨rfl, rfl⟩
                          show pG 224 95 [some (.ref 211), some (.int x1)] [] (mjTo Z142) _
                          refine pG_many 1 (pc1 := 96) (L1 := [some (.ref 211), some (.int x1)]) (st1 := [.ref 211]) (M1 := mjTo Z142) rfl ?_
                          cases hq143 : f223_comparison  Z142 with
                          | none => rw [hq143] at h; cases h
                          | some w =>
                            obtain ⟨v144, Z145⟩ := w
                            rw [hq143, mjBd_some] at h
                            refine pG_callV (k2 := 223) (As := [.ref 211]) (rest := []) rfl rfl rfl rfl rfl (by rfl) (by decide) (f223_comparison_ok hq143) ?_
                            rintro r9 M9 ⟨rfl, rfl⟩
                            show pG 224 99 [some (.ref 211), some (.int x1)] [] (mjTo Z145) _
                            refine pG_many 1 (pc1 := 21) (L1 := [some (.ref 211), some (.int x1)]) (st1 := []) (M1 := mjTo Z145) rfl ?_
                            exact f224_test_h21_ok n x1 Z145 v9 Z9 h
              · rw [if_neg hc115] at h
                refine pG_iff (t := 67) rfl rfl hc115 ?_
                refine pG_many 3 (pc1 := 47) (L1 := [some (.ref 211), some (.int x1)]) (st1 := [.int 41, .int 41, .ref 211]) (M1 := mjTo Z) rfl ?_
                cases hq146 : f218_works 41 41 Z with
                | none => rw [hq146] at h; cases h
                | some w =>
                  obtain ⟨v147, Z148⟩ := w
                  rw [hq146, mjBd_some] at h
                  refine pG_callV (k2 := 218) (As := [.ref 211, .int 41, .int 41]) (rest := []) rfl rfl rfl rfl rfl (by rfl) (by decide) (f218_works_ok hq146) ?_
                  rintro r9 M9 ⟨rfl, rfl⟩
                  show pG 224 50 [some (.ref 211), some (.int x1)] [] (mjTo Z148) _
                  refine pG_many 2 (pc1 := 53) (L1 := [some (.ref 211), some (.int x1)]) (st1 := [.int 41, .ref 211]) (M1 := mjTo Z148) rfl ?_
                  cases hq149 : f215_waitsFor 41 Z148 with
                  | none => rw [hq149] at h; cases h
                  | some w =>
                    obtain ⟨v150, Z151⟩ := w
                    rw [hq149, mjBd_some] at h
                    refine pG_callV (k2 := 215) (As := [.ref 211, .int 41]) (rest := []) rfl rfl rfl rfl rfl (by rfl) (by decide) (f215_waitsFor_ok hq149) ?_
                    rintro r9 M9 ⟨rfl, rfl⟩
                    show pG 224 56 [some (.ref 211), some (.int x1)] [] (mjTo Z151) _
                    refine pG_many 1 (pc1 := 57) (L1 := [some (.ref 211), some (.int x1)]) (st1 := [.ref 211]) (M1 := mjTo Z151) rfl ?_
                    cases hq152 : f205_goOn  Z151 with
                    | none => rw [hq152] at h; cases h
                    | some w =>
                      obtain ⟨v153, Z154⟩ := w
                      rw [hq152, mjBd_some] at h
                      refine pG_callV (k2 := 205) (As := [.ref 211]) (rest := []) rfl rfl rfl rfl rfl (by rfl) (by decide) (f205_goOn_ok hq152) ?_
                      rintro r9 M9 ⟨rfl, rfl⟩
                      show pG 224 60 [some (.ref 211), some (.int x1)] [] (mjTo Z154) _
                      refine pG_many 1 (pc1 := 61) (L1 := [some (.ref 211), some (.int x1)]) (st1 := [.ref 211]) (M1 := mjTo Z154) rfl ?_
                      cases hq155 : f223_comparison  Z154 with
                      | none => rw [hq155] at h; cases h
                      | some w =>
                        obtain ⟨v156, Z157⟩ := w
                        rw [hq155, mjBd_some] at h
                        refine pG_callV (k2 := 223) (As := [.ref 211]) (rest := []) rfl rfl rfl rfl rfl (by rfl) (by decide) (f223_comparison_ok hq155) ?_
                        rintro r9 M9 ⟨rfl, rfl⟩
                        show pG 224 64 [some (.ref 211), some (.int x1)] [] (mjTo Z157) _
                        refine pG_many 1 (pc1 := 21) (L1 := [some (.ref 211), some (.int x1)]) (st1 := []) (M1 := mjTo Z157) rfl ?_
                        exact f224_test_h21_ok n x1 Z157 v9 Z9 h
def f224_test  (Z : mjZt) : Option (Unit × mjZt) :=
  mjLet (zSi Z 211 18 0) fun Z101 =>
  mjLet (zSi Z101 211 19 0) fun Z102 =>
  mjLet (zSi Z102 211 20 0) fun Z103 =>
  mjBd (f223_comparison  Z103) fun _ Z106 =>
  f224_test_h21 mjF 1 Z106
theorem f224_test_ok  {Z : mjZt} {v9 : Unit} {Z9 : mjZt} (h : f224_test  Z = some (v9, Z9)) : pG 224 0 (mjEnt [.ref 211] (mjML 224)) [] (mjTo Z) (fun r M1 => r = none ∧ M1 = mjTo Z9) := by
  unfold f224_test at h
  show pG 224 0 [some (.ref 211), none] [] (mjTo Z) _
  refine pG_many 2 (pc1 := 2) (L1 := [some (.ref 211), none]) (st1 := [.int 0, .ref 211]) (M1 := mjTo Z) rfl ?_
  refine pG_putI (ci := 12) (f := 18) rfl rfl rfl rfl (by rfl) ?_
  rw [mjLet] at h
  generalize zSi Z 211 18 0 = Z101 at h ⊢
  refine pG_many 2 (pc1 := 7) (L1 := [some (.ref 211), none]) (st1 := [.int 0, .ref 211]) (M1 := mjTo Z101) rfl ?_
  refine pG_putI (ci := 12) (f := 19) rfl rfl rfl rfl (by rfl) ?_
  rw [mjLet] at h
  generalize zSi Z101 211 19 0 = Z102 at h ⊢
  refine pG_many 2 (pc1 := 12) (L1 := [some (.ref 211), none]) (st1 := [.int 0, .ref 211]) (M1 := mjTo Z102) rfl ?_
  refine pG_putI (ci := 12) (f := 20) rfl rfl rfl rfl (by rfl) ?_
  rw [mjLet] at h
  generalize zSi Z102 211 20 0 = Z103 at h ⊢
  refine pG_many 1 (pc1 := 16) (L1 := [some (.ref 211), none]) (st1 := [.ref 211]) (M1 := mjTo Z103) rfl ?_
  cases hq104 : f223_comparison  Z103 with
  | none => rw [hq104] at h; cases h
  | some w =>
    obtain ⟨v105, Z106⟩ := w
    rw [hq104, mjBd_some] at h
    refine pG_callV (k2 := 223) (As := [.ref 211]) (rest := []) rfl rfl rfl rfl rfl (by rfl) (by decide) (f223_comparison_ok hq104) ?_
    rintro r9 M9 ⟨rfl, rfl⟩
    show pG 224 19 [some (.ref 211), none] [] (mjTo Z106) _
    refine pG_many 2 (pc1 := 21) (L1 := [some (.ref 211), some (.int 1)]) (st1 := []) (M1 := mjTo Z106) rfl ?_
    exact f224_test_h21_ok mjF 1 Z106 v9 Z9 h
def f225_freshName_j77 (x1 : Nat) (x2 : Int32) (Z : mjZt) : Option (Unit × mjZt) :=
  if mjCmp .le (Z.1 211 9) 0 = true then
    if mjIs x1 251 14 = true then
    if mjIn x2 (mjLay x1).2 = true then
    mjLet (zSl Z x1 (mjIx x2) (Z.2.1 211 13)) fun Z112 =>
    mjBd (f205_goOn  Z112) fun _ Z115 =>
    some ((), Z115)
    else none
    else none
  else
    some ((), Z)
theorem f225_freshName_j77_ok (x1 : Nat) (x2 : Int32) (Z : mjZt) (v9 : Unit) (Z9 : mjZt) (h : f225_freshName_j77 x1 x2 Z = some (v9, Z9)) : pG 225 77 [some (.ref 211), some (.ref x1), some (.int x2)] [] (mjTo Z) (fun r M1 => r = none ∧ M1 = mjTo Z9) := by
  unfold f225_freshName_j77 at h
  refine pG_many 1 (pc1 := 78) (L1 := [some (.ref 211), some (.ref x1), some (.int x2)]) (st1 := [.ref 211]) (M1 := mjTo Z) rfl ?_
  refine pG_getI (ci := 12) (f := 9) rfl rfl (Or.inl rfl) (by rfl) ?_
  by_cases hc109 : mjCmp .le (Z.1 211 9) 0 = true
  · rw [if_pos hc109] at h
    refine pG_ift (t := 85) rfl rfl hc109 ?_
    refine pG_many 3 (pc1 := 88) (L1 := [some (.ref 211), some (.ref x1), some (.int x2)]) (st1 := [.ref 211, .int x2, .ref x1]) (M1 := mjTo Z) rfl ?_
    refine pG_getL (ci := 12) (f := 13) rfl rfl rfl (by rfl) ?_
    have hk110 : mjIs x1 251 14 = true := by
      by_cases q9 : mjIs x1 251 14 = true
      · exact q9
      · rw [if_neg q9] at h; cases h
    rw [if_pos hk110] at h
    have hk111 : mjIn x2 (mjLay x1).2 = true := by
      by_cases q9 : mjIn x2 (mjLay x1).2 = true
      · exact q9
      · rw [if_neg q9] at h; cases h
    rw [if_pos hk111] at h
    refine pG_las rfl hk110 hk111 (?_ : pG 225 92 [some (.ref 211), some (.ref x1), some (.int x2)] [] (mjTo (zSl Z x1 (mjIx x2) (Z.2.1 211 13))) _)
    rw [mjLet] at h
    generalize zSl Z x1 (mjIx x2) (Z.2.1 211 13) = Z112 at h ⊢
    refine pG_many 1 (pc1 := 93) (L1 := [some (.ref 211), some (.ref x1), some (.int x2)]) (st1 := [.ref 211]) (M1 := mjTo Z112) rfl ?_
    cases hq113 : f205_goOn  Z112 with
    | none => rw [hq113] at h; cases h
    | some w =>
      obtain ⟨v114, Z115⟩ := w
      rw [hq113, mjBd_some] at h
      refine pG_callV (k2 := 205) (As := [.ref 211]) (rest := []) rfl rfl rfl rfl rfl (by rfl) (by decide) (f205_goOn_ok hq113) ?_
      rintro r9 M9 ⟨rfl, rfl⟩
      show pG 225 96 [some (.ref 211), some (.ref x1), some (.int x2)] [] (mjTo Z115) _
      simp only [Option.some.injEq, Prod.mk.injEq] at h
      obtain ⟨-, rfl⟩ := h
      exact pG_ret (r := none) rfl ⟨rfl, rfl⟩
  · rw [if_neg hc109] at h
    refine pG_iff (t := 85) rfl rfl hc109 ?_
    simp only [Option.some.injEq, Prod.mk.injEq] at h
    obtain ⟨-, rfl⟩ := h
    exact pG_ret (r := none) rfl ⟨rfl, rfl⟩
def f225_freshName_j72 (x1 : Nat) (x2 : Int32) (Z : mjZt) : Option (Unit × mjZt) :=
  mjBd (f206_wrong 3 Z) fun _ Z122 =>
  f225_freshName_j77 x1 x2 Z122
theorem f225_freshName_j72_ok (x1 : Nat) (x2 : Int32) (Z : mjZt) (v9 : Unit) (Z9 : mjZt) (h : f225_freshName_j72 x1 x2 Z = some (v9, Z9)) : pG 225 72 [some (.ref 211), some (.ref x1), some (.int x2)] [] (mjTo Z) (fun r M1 => r = none ∧ M1 = mjTo Z9) := by
  unfold f225_freshName_j72 at h
  refine pG_many 2 (pc1 := 74) (L1 := [some (.ref 211), some (.ref x1), some (.int x2)]) (st1 := [.int 3, .ref 211]) (M1 := mjTo Z) rfl ?_
  cases hq120 : f206_wrong 3 Z with
  | none => rw [hq120] at h; cases h
  | some w =>
    obtain ⟨v121, Z122⟩ := w
    rw [hq120, mjBd_some] at h
    refine pG_callV (k2 := 206) (As := [.ref 211, .int 3]) (rest := []) rfl rfl rfl rfl rfl (by rfl) (by decide) (f206_wrong_ok hq120) ?_
    rintro r9 M9 ⟨rfl, rfl⟩
    show pG 225 77 [some (.ref 211), some (.ref x1), some (.int x2)] [] (mjTo Z122) _
    exact f225_freshName_j77_ok x1 x2 Z122 v9 Z9 h
def f225_freshName_j27 (x1 : Nat) (x2 : Int32) (Z : mjZt) : Option (Unit × mjZt) :=
  mjBp (f207_isGood  Z) fun v106 =>
  if mjCmp .eq v106 0 = true then
    f225_freshName_j77 x1 x2 Z
  else
    mjBp (f210_among 227 (Z.1 211 21) (Z.2.1 211 13) Z) fun v117 =>
    if mjCmp .ne v117 ((-1)) = true then
      f225_freshName_j72 x1 x2 Z
    else
      mjBp (f210_among 228 (Z.1 211 23) (Z.2.1 211 13) Z) fun v124 =>
      if mjCmp .eq v124 ((-1)) = true then
        f225_freshName_j77 x1 x2 Z
      else
        f225_freshName_j72 x1 x2 Z
theorem f225_freshName_j27_ok (x1 : Nat) (x2 : Int32) (Z : mjZt) (v9 : Unit) (Z9 : mjZt) (h : f225_freshName_j27 x1 x2 Z = some (v9, Z9)) : pG 225 27 [some (.ref 211), some (.ref x1), some (.int x2)] [] (mjTo Z) (fun r M1 => r = none ∧ M1 = mjTo Z9) := by
  unfold f225_freshName_j27 at h
  refine pG_many 1 (pc1 := 28) (L1 := [some (.ref 211), some (.ref x1), some (.int x2)]) (st1 := [.ref 211]) (M1 := mjTo Z) rfl ?_
  cases hq105 : f207_isGood  Z with
  | none => rw [hq105] at h; cases h
  | some v106 =>
    rw [hq105, mjBp_some] at h
    refine pG_callV (k2 := 207) (As := [.ref 211]) (rest := []) rfl rfl rfl rfl rfl (by rfl) (by decide) (f207_isGood_ok hq105) ?_
    rintro r9 M9 ⟨rfl, rfl⟩
    show pG 225 31 [some (.ref 211), some (.ref x1), some (.int x2)] [.int v106] (mjTo Z) _
    by_cases hc108 : mjCmp .eq v106 0 = true
    · rw [if_pos hc108] at h
      refine pG_ift (t := 77) rfl rfl hc108 ?_
      exact f225_freshName_j77_ok x1 x2 Z v9 Z9 h
    · rw [if_neg hc108] at h
      refine pG_iff (t := 77) rfl rfl hc108 ?_
      refine pG_many 1 (pc1 := 35) (L1 := [some (.ref 211), some (.ref x1), some (.int x2)]) (st1 := [.ref 211]) (M1 := mjTo Z) rfl ?_
      refine pG_getR (ci := 12) (f := 37) (b := 227) rfl rfl rfl (by rfl) rfl ?_
      refine pG_many 1 (pc1 := 39) (L1 := [some (.ref 211), some (.ref x1), some (.int x2)]) (st1 := [.ref 211, .ref 227]) (M1 := mjTo Z) rfl ?_
      refine pG_getI (ci := 12) (f := 21) rfl rfl (Or.inl rfl) (by rfl) ?_
      refine pG_many 1 (pc1 := 43) (L1 := [some (.ref 211), some (.ref x1), some (.int x2)]) (st1 := [.ref 211, .int (Z.1 211 21), .ref 227]) (M1 := mjTo Z) rfl ?_
      refine pG_getL (ci := 12) (f := 13) rfl rfl rfl (by rfl) ?_
      cases hq116 : f210_among 227 (Z.1 211 21) (Z.2.1 211 13) Z with
      | none => rw [hq116] at h; cases h
      | some v117 =>
        rw [hq116, mjBp_some] at h
        refine pG_call (k2 := 210) (As := [.ref 227, .int (Z.1 211 21), .long (Z.2.1 211 13)]) (rest := []) rfl (by decide) (f210_among_ok hq116) ?_
        rintro r9 M9 ⟨rfl, rfl⟩
        show pG 225 49 [some (.ref 211), some (.ref x1), some (.int x2)] [.int v117] (mjTo Z) _
        refine pG_many 1 (pc1 := 50) (L1 := [some (.ref 211), some (.ref x1), some (.int x2)]) (st1 := [.int ((-1)), .int v117]) (M1 := mjTo Z) rfl ?_
        by_cases hc119 : mjCmp .ne v117 ((-1)) = true
        · rw [if_pos hc119] at h
          refine pG_cmt (t := 72) rfl rfl hc119 ?_
          exact f225_freshName_j72_ok x1 x2 Z v9 Z9 h
        · rw [if_neg hc119] at h
          refine pG_cmf (t := 72) rfl rfl hc119 ?_
          refine pG_many 1 (pc1 := 54) (L1 := [some (.ref 211), some (.ref x1), some (.int x2)]) (st1 := [.ref 211]) (M1 := mjTo Z) rfl ?_
          refine pG_getR (ci := 12) (f := 38) (b := 228) rfl rfl rfl (by rfl) rfl ?_
          refine pG_many 1 (pc1 := 58) (L1 := [some (.ref 211), some (.ref x1), some (.int x2)]) (st1 := [.ref 211, .ref 228]) (M1 := mjTo Z) rfl ?_
          refine pG_getI (ci := 12) (f := 23) rfl rfl (Or.inl rfl) (by rfl) ?_
          refine pG_many 1 (pc1 := 62) (L1 := [some (.ref 211), some (.ref x1), some (.int x2)]) (st1 := [.ref 211, .int (Z.1 211 23), .ref 228]) (M1 := mjTo Z) rfl ?_
          refine pG_getL (ci := 12) (f := 13) rfl rfl rfl (by rfl) ?_
          cases hq123 : f210_among 228 (Z.1 211 23) (Z.2.1 211 13) Z with
          | none => rw [hq123] at h; cases h
          | some v124 =>
            rw [hq123, mjBp_some] at h
            refine pG_call (k2 := 210) (As := [.ref 228, .int (Z.1 211 23), .long (Z.2.1 211 13)]) (rest := []) rfl (by decide) (f210_among_ok hq123) ?_
            rintro r9 M9 ⟨rfl, rfl⟩
            show pG 225 68 [some (.ref 211), some (.ref x1), some (.int x2)] [.int v124] (mjTo Z) _
            refine pG_many 1 (pc1 := 69) (L1 := [some (.ref 211), some (.ref x1), some (.int x2)]) (st1 := [.int ((-1)), .int v124]) (M1 := mjTo Z) rfl ?_
            by_cases hc126 : mjCmp .eq v124 ((-1)) = true
            · rw [if_pos hc126] at h
              refine pG_cmt (t := 77) rfl rfl hc126 ?_
              exact f225_freshName_j77_ok x1 x2 Z v9 Z9 h
            · rw [if_neg hc126] at h
              refine pG_cmf (t := 77) rfl rfl hc126 ?_
              exact f225_freshName_j72_ok x1 x2 Z v9 Z9 h
def f225_freshName_j22 (x1 : Nat) (x2 : Int32) (Z : mjZt) : Option (Unit × mjZt) :=
  mjBd (f206_wrong 2 Z) fun _ Z130 =>
  f225_freshName_j27 x1 x2 Z130
theorem f225_freshName_j22_ok (x1 : Nat) (x2 : Int32) (Z : mjZt) (v9 : Unit) (Z9 : mjZt) (h : f225_freshName_j22 x1 x2 Z = some (v9, Z9)) : pG 225 22 [some (.ref 211), some (.ref x1), some (.int x2)] [] (mjTo Z) (fun r M1 => r = none ∧ M1 = mjTo Z9) := by
  unfold f225_freshName_j22 at h
  refine pG_many 2 (pc1 := 24) (L1 := [some (.ref 211), some (.ref x1), some (.int x2)]) (st1 := [.int 2, .ref 211]) (M1 := mjTo Z) rfl ?_
  cases hq128 : f206_wrong 2 Z with
  | none => rw [hq128] at h; cases h
  | some w =>
    obtain ⟨v129, Z130⟩ := w
    rw [hq128, mjBd_some] at h
    refine pG_callV (k2 := 206) (As := [.ref 211, .int 2]) (rest := []) rfl rfl rfl rfl rfl (by rfl) (by decide) (f206_wrong_ok hq128) ?_
    rintro r9 M9 ⟨rfl, rfl⟩
    show pG 225 27 [some (.ref 211), some (.ref x1), some (.int x2)] [] (mjTo Z130) _
    exact f225_freshName_j27_ok x1 x2 Z130 v9 Z9 h
def f225_freshName (p0 : Nat) (p1 : Int32) (Z : mjZt) : Option (Unit × mjZt) :=
  mjBp (f207_isGood  Z) fun v102 =>
  if mjCmp .eq v102 0 = true then
    f225_freshName_j27 p0 p1 Z
  else
    if mjCmp .ne (Z.1 211 7) 1 = true then
      f225_freshName_j22 p0 p1 Z
    else
      mjBp (f211_isKept  Z) fun v132 =>
      if mjCmp .eq v132 0 = true then
        f225_freshName_j27 p0 p1 Z
      else
        f225_freshName_j22 p0 p1 Z
theorem f225_freshName_ok {p0 : Nat} {p1 : Int32} {Z : mjZt} {v9 : Unit} {Z9 : mjZt} (h : f225_freshName p0 p1 Z = some (v9, Z9)) : pG 225 0 (mjEnt [.ref 211, .ref p0, .int p1] (mjML 225)) [] (mjTo Z) (fun r M1 => r = none ∧ M1 = mjTo Z9) := by
  unfold f225_freshName at h
  show pG 225 0 [some (.ref 211), some (.ref p0), some (.int p1)] [] (mjTo Z) _
  refine pG_many 1 (pc1 := 1) (L1 := [some (.ref 211), some (.ref p0), some (.int p1)]) (st1 := [.ref 211]) (M1 := mjTo Z) rfl ?_
  cases hq101 : f207_isGood  Z with
  | none => rw [hq101] at h; cases h
  | some v102 =>
    rw [hq101, mjBp_some] at h
    refine pG_callV (k2 := 207) (As := [.ref 211]) (rest := []) rfl rfl rfl rfl rfl (by rfl) (by decide) (f207_isGood_ok hq101) ?_
    rintro r9 M9 ⟨rfl, rfl⟩
    show pG 225 4 [some (.ref 211), some (.ref p0), some (.int p1)] [.int v102] (mjTo Z) _
    by_cases hc104 : mjCmp .eq v102 0 = true
    · rw [if_pos hc104] at h
      refine pG_ift (t := 27) rfl rfl hc104 ?_
      exact f225_freshName_j27_ok p0 p1 Z v9 Z9 h
    · rw [if_neg hc104] at h
      refine pG_iff (t := 27) rfl rfl hc104 ?_
      refine pG_many 1 (pc1 := 8) (L1 := [some (.ref 211), some (.ref p0), some (.int p1)]) (st1 := [.ref 211]) (M1 := mjTo Z) rfl ?_
      refine pG_getI (ci := 12) (f := 7) rfl rfl (Or.inl rfl) (by rfl) ?_
      refine pG_many 1 (pc1 := 12) (L1 := [some (.ref 211), some (.ref p0), some (.int p1)]) (st1 := [.int 1, .int (Z.1 211 7)]) (M1 := mjTo Z) rfl ?_
      by_cases hc127 : mjCmp .ne (Z.1 211 7) 1 = true
      · rw [if_pos hc127] at h
        refine pG_cmt (t := 22) rfl rfl hc127 ?_
        exact f225_freshName_j22_ok p0 p1 Z v9 Z9 h
      · rw [if_neg hc127] at h
        refine pG_cmf (t := 22) rfl rfl hc127 ?_
        refine pG_many 1 (pc1 := 16) (L1 := [some (.ref 211), some (.ref p0), some (.int p1)]) (st1 := [.ref 211]) (M1 := mjTo Z) rfl ?_
        cases hq131 : f211_isKept  Z with
        | none => rw [hq131] at h; cases h
        | some v132 =>
          rw [hq131, mjBp_some] at h
          refine pG_callV (k2 := 211) (As := [.ref 211]) (rest := []) rfl rfl rfl rfl rfl (by rfl) (by decide) (f211_isKept_ok hq131) ?_
          rintro r9 M9 ⟨rfl, rfl⟩
          show pG 225 19 [some (.ref 211), some (.ref p0), some (.int p1)] [.int v132] (mjTo Z) _
          by_cases hc134 : mjCmp .eq v132 0 = true
          · rw [if_pos hc134] at h
            refine pG_ift (t := 27) rfl rfl hc134 ?_
            exact f225_freshName_j27_ok p0 p1 Z v9 Z9 h
          · rw [if_neg hc134] at h
            refine pG_iff (t := 27) rfl rfl hc134 ?_
            exact f225_freshName_j22_ok p0 p1 Z v9 Z9 h
def f226_teamHere_j27  (Z : mjZt) : Option (Int32 × mjZt) :=
  mjBp (f210_among 227 (Z.1 211 21) (Z.2.1 211 13) Z) fun v106 =>
  mjBp (f207_isGood  Z) fun v109 =>
  if mjCmp .eq v109 0 = true then
    some (v106, Z)
  else
    if mjCmp .ne v106 ((-1)) = true then
      some (v106, Z)
    else
      mjBd (f206_wrong 3 Z) fun _ Z115 =>
      some (v106, Z115)
theorem f226_teamHere_j27_ok  (d1 : Option Value) (Z : mjZt) (v9 : Int32) (Z9 : mjZt) (h : f226_teamHere_j27  Z = some (v9, Z9)) : pG 226 27 [some (.ref 211), d1] [] (mjTo Z) (fun r M1 => r = some (.int v9) ∧ M1 = mjTo Z9) := by
  unfold f226_teamHere_j27 at h
  refine pG_many 1 (pc1 := 28) (L1 := [some (.ref 211), d1]) (st1 := [.ref 211]) (M1 := mjTo Z) rfl ?_
  refine pG_getR (ci := 12) (f := 37) (b := 227) rfl rfl rfl (by rfl) rfl ?_
  refine pG_many 1 (pc1 := 32) (L1 := [some (.ref 211), d1]) (st1 := [.ref 211, .ref 227]) (M1 := mjTo Z) rfl ?_
  refine pG_getI (ci := 12) (f := 21) rfl rfl (Or.inl rfl) (by rfl) ?_
  refine pG_many 1 (pc1 := 36) (L1 := [some (.ref 211), d1]) (st1 := [.ref 211, .int (Z.1 211 21), .ref 227]) (M1 := mjTo Z) rfl ?_
  refine pG_getL (ci := 12) (f := 13) rfl rfl rfl (by rfl) ?_
  cases hq105 : f210_among 227 (Z.1 211 21) (Z.2.1 211 13) Z with
  | none => rw [hq105] at h; cases h
  | some v106 =>
    rw [hq105, mjBp_some] at h
    refine pG_call (k2 := 210) (As := [.ref 227, .int (Z.1 211 21), .long (Z.2.1 211 13)]) (rest := []) rfl (by decide) (f210_among_ok hq105) ?_
    rintro r9 M9 ⟨rfl, rfl⟩
    show pG 226 42 [some (.ref 211), d1] [.int v106] (mjTo Z) _
    refine pG_many 2 (pc1 := 44) (L1 := [some (.ref 211), some (.int v106)]) (st1 := [.ref 211]) (M1 := mjTo Z) rfl ?_
    cases hq108 : f207_isGood  Z with
    | none => rw [hq108] at h; cases h
    | some v109 =>
      rw [hq108, mjBp_some] at h
      refine pG_callV (k2 := 207) (As := [.ref 211]) (rest := []) rfl rfl rfl rfl rfl (by rfl) (by decide) (f207_isGood_ok hq108) ?_
      rintro r9 M9 ⟨rfl, rfl⟩
      show pG 226 47 [some (.ref 211), some (.int v106)] [.int v109] (mjTo Z) _
      by_cases hc111 : mjCmp .eq v109 0 = true
      · rw [if_pos hc111] at h
        refine pG_ift (t := 60) rfl rfl hc111 ?_
        refine pG_many 1 (pc1 := 61) (L1 := [some (.ref 211), some (.int v106)]) (st1 := [.int v106]) (M1 := mjTo Z) rfl ?_
        simp only [Option.some.injEq, Prod.mk.injEq] at h
        obtain ⟨rfl, rfl⟩ := h
        exact pG_ret (r := some (.int v106)) rfl ⟨rfl, rfl⟩
      · rw [if_neg hc111] at h
        refine pG_iff (t := 60) rfl rfl hc111 ?_
        refine pG_many 2 (pc1 := 52) (L1 := [some (.ref 211), some (.int v106)]) (st1 := [.int ((-1)), .int v106]) (M1 := mjTo Z) rfl ?_
        by_cases hc112 : mjCmp .ne v106 ((-1)) = true
        · rw [if_pos hc112] at h
          refine pG_cmt (t := 60) rfl rfl hc112 ?_
          refine pG_many 1 (pc1 := 61) (L1 := [some (.ref 211), some (.int v106)]) (st1 := [.int v106]) (M1 := mjTo Z) rfl ?_
          simp only [Option.some.injEq, Prod.mk.injEq] at h
          obtain ⟨rfl, rfl⟩ := h
          exact pG_ret (r := some (.int v106)) rfl ⟨rfl, rfl⟩
        · rw [if_neg hc112] at h
          refine pG_cmf (t := 60) rfl rfl hc112 ?_
          refine pG_many 2 (pc1 := 57) (L1 := [some (.ref 211), some (.int v106)]) (st1 := [.int 3, .ref 211]) (M1 := mjTo Z) rfl ?_
          cases hq113 : f206_wrong 3 Z with
          | none => rw [hq113] at h; cases h
          | some w =>
            obtain ⟨v114, Z115⟩ := w
            rw [hq113, mjBd_some] at h
            refine pG_callV (k2 := 206) (As := [.ref 211, .int 3]) (rest := []) rfl rfl rfl rfl rfl (by rfl) (by decide) (f206_wrong_ok hq113) ?_
            rintro r9 M9 ⟨rfl, rfl⟩
            show pG 226 60 [some (.ref 211), some (.int v106)] [] (mjTo Z115) _
            refine pG_many 1 (pc1 := 61) (L1 := [some (.ref 211), some (.int v106)]) (st1 := [.int v106]) (M1 := mjTo Z115) rfl ?_
            simp only [Option.some.injEq, Prod.mk.injEq] at h
            obtain ⟨rfl, rfl⟩ := h
            exact pG_ret (r := some (.int v106)) rfl ⟨rfl, rfl⟩
def f226_teamHere_j22  (Z : mjZt) : Option (Int32 × mjZt) :=
  mjBd (f206_wrong 2 Z) fun _ Z119 =>
  f226_teamHere_j27  Z119
theorem f226_teamHere_j22_ok  (d1 : Option Value) (Z : mjZt) (v9 : Int32) (Z9 : mjZt) (h : f226_teamHere_j22  Z = some (v9, Z9)) : pG 226 22 [some (.ref 211), d1] [] (mjTo Z) (fun r M1 => r = some (.int v9) ∧ M1 = mjTo Z9) := by
  unfold f226_teamHere_j22 at h
  refine pG_many 2 (pc1 := 24) (L1 := [some (.ref 211), d1]) (st1 := [.int 2, .ref 211]) (M1 := mjTo Z) rfl ?_
  cases hq117 : f206_wrong 2 Z with
  | none => rw [hq117] at h; cases h
  | some w =>
    obtain ⟨v118, Z119⟩ := w
    rw [hq117, mjBd_some] at h
    refine pG_callV (k2 := 206) (As := [.ref 211, .int 2]) (rest := []) rfl rfl rfl rfl rfl (by rfl) (by decide) (f206_wrong_ok hq117) ?_
    rintro r9 M9 ⟨rfl, rfl⟩
    show pG 226 27 [some (.ref 211), d1] [] (mjTo Z119) _
    exact f226_teamHere_j27_ok d1 Z119 v9 Z9 h
def f226_teamHere  (Z : mjZt) : Option (Int32 × mjZt) :=
  mjBp (f207_isGood  Z) fun v102 =>
  if mjCmp .eq v102 0 = true then
    f226_teamHere_j27  Z
  else
    if mjCmp .ne (Z.1 211 7) 1 = true then
      f226_teamHere_j22  Z
    else
      mjBp (f211_isKept  Z) fun v121 =>
      if mjCmp .eq v121 0 = true then
        f226_teamHere_j27  Z
      else
        f226_teamHere_j22  Z
theorem f226_teamHere_ok  {Z : mjZt} {v9 : Int32} {Z9 : mjZt} (h : f226_teamHere  Z = some (v9, Z9)) : pG 226 0 (mjEnt [.ref 211] (mjML 226)) [] (mjTo Z) (fun r M1 => r = some (.int v9) ∧ M1 = mjTo Z9) := by
  unfold f226_teamHere at h
  show pG 226 0 [some (.ref 211), none] [] (mjTo Z) _
  refine pG_many 1 (pc1 := 1) (L1 := [some (.ref 211), none]) (st1 := [.ref 211]) (M1 := mjTo Z) rfl ?_
  cases hq101 : f207_isGood  Z with
  | none => rw [hq101] at h; cases h
  | some v102 =>
    rw [hq101, mjBp_some] at h
    refine pG_callV (k2 := 207) (As := [.ref 211]) (rest := []) rfl rfl rfl rfl rfl (by rfl) (by decide) (f207_isGood_ok hq101) ?_
    rintro r9 M9 ⟨rfl, rfl⟩
    show pG 226 4 [some (.ref 211), none] [.int v102] (mjTo Z) _
    by_cases hc104 : mjCmp .eq v102 0 = true
    · rw [if_pos hc104] at h
      refine pG_ift (t := 27) rfl rfl hc104 ?_
      exact f226_teamHere_j27_ok none Z v9 Z9 h
    · rw [if_neg hc104] at h
      refine pG_iff (t := 27) rfl rfl hc104 ?_
      refine pG_many 1 (pc1 := 8) (L1 := [some (.ref 211), none]) (st1 := [.ref 211]) (M1 := mjTo Z) rfl ?_
      refine pG_getI (ci := 12) (f := 7) rfl rfl (Or.inl rfl) (by rfl) ?_
      refine pG_many 1 (pc1 := 12) (L1 := [some (.ref 211), none]) (st1 := [.int 1, .int (Z.1 211 7)]) (M1 := mjTo Z) rfl ?_
      by_cases hc116 : mjCmp .ne (Z.1 211 7) 1 = true
      · rw [if_pos hc116] at h
        refine pG_cmt (t := 22) rfl rfl hc116 ?_
        exact f226_teamHere_j22_ok none Z v9 Z9 h
      · rw [if_neg hc116] at h
        refine pG_cmf (t := 22) rfl rfl hc116 ?_
        refine pG_many 1 (pc1 := 16) (L1 := [some (.ref 211), none]) (st1 := [.ref 211]) (M1 := mjTo Z) rfl ?_
        cases hq120 : f211_isKept  Z with
        | none => rw [hq120] at h; cases h
        | some v121 =>
          rw [hq120, mjBp_some] at h
          refine pG_callV (k2 := 211) (As := [.ref 211]) (rest := []) rfl rfl rfl rfl rfl (by rfl) (by decide) (f211_isKept_ok hq120) ?_
          rintro r9 M9 ⟨rfl, rfl⟩
          show pG 226 19 [some (.ref 211), none] [.int v121] (mjTo Z) _
          by_cases hc123 : mjCmp .eq v121 0 = true
          · rw [if_pos hc123] at h
            refine pG_ift (t := 27) rfl rfl hc123 ?_
            exact f226_teamHere_j27_ok none Z v9 Z9 h
          · rw [if_neg hc123] at h
            refine pG_iff (t := 27) rfl rfl hc123 ?_
            exact f226_teamHere_j22_ok none Z v9 Z9 h
def f227_teamLine_j137  (Z : mjZt) : Option (Unit × mjZt) :=
  if mjCmp .le (Z.1 211 9) 0 = true then
    if mjIn (Z.1 211 21) 6 = true then
    mjLet (zSi Z 219 (mjIx (Z.1 211 21)) (Z.1 211 8)) fun Z121 =>
    if mjIn (Z121.1 211 21) 6 = true then
    mjLet (zSi Z121 220 (mjIx (Z121.1 211 21)) 0) fun Z123 =>
    mjLet (zSi Z123 211 21 ((Z123.1 211 21) + 1)) fun Z124 =>
    mjBd (f205_goOn  Z124) fun _ Z127 =>
    some ((), Z127)
    else none
    else none
  else
    some ((), Z)
theorem f227_teamLine_j137_ok  (d1 d2 : Option Value) (Z : mjZt) (v9 : Unit) (Z9 : mjZt) (h : f227_teamLine_j137  Z = some (v9, Z9)) : pG 227 137 [some (.ref 211), d1, d2] [] (mjTo Z) (fun r M1 => r = none ∧ M1 = mjTo Z9) := by
  unfold f227_teamLine_j137 at h
  refine pG_many 1 (pc1 := 138) (L1 := [some (.ref 211), d1, d2]) (st1 := [.ref 211]) (M1 := mjTo Z) rfl ?_
  refine pG_getI (ci := 12) (f := 9) rfl rfl (Or.inl rfl) (by rfl) ?_
  by_cases hc119 : mjCmp .le (Z.1 211 9) 0 = true
  · rw [if_pos hc119] at h
    refine pG_ift (t := 145) rfl rfl hc119 ?_
    refine pG_many 1 (pc1 := 146) (L1 := [some (.ref 211), d1, d2]) (st1 := [.ref 211]) (M1 := mjTo Z) rfl ?_
    refine pG_getR (ci := 12) (f := 29) (b := 219) rfl rfl rfl (by rfl) rfl ?_
    refine pG_many 1 (pc1 := 150) (L1 := [some (.ref 211), d1, d2]) (st1 := [.ref 211, .ref 219]) (M1 := mjTo Z) rfl ?_
    refine pG_getI (ci := 12) (f := 21) rfl rfl (Or.inl rfl) (by rfl) ?_
    refine pG_many 1 (pc1 := 154) (L1 := [some (.ref 211), d1, d2]) (st1 := [.ref 211, .int (Z.1 211 21), .ref 219]) (M1 := mjTo Z) rfl ?_
    refine pG_getI (ci := 12) (f := 8) rfl rfl (Or.inl rfl) (by rfl) ?_
    have hk120 : mjIn (Z.1 211 21) 6 = true := by
      by_cases q9 : mjIn (Z.1 211 21) 6 = true
      · exact q9
      · rw [if_neg q9] at h; cases h
    rw [if_pos hk120] at h
    refine pG_ias rfl (by rfl) hk120 (?_ : pG 227 158 [some (.ref 211), d1, d2] [] (mjTo (zSi Z 219 (mjIx (Z.1 211 21)) (Z.1 211 8))) _)
    rw [mjLet] at h
    generalize zSi Z 219 (mjIx (Z.1 211 21)) (Z.1 211 8) = Z121 at h ⊢
    refine pG_many 1 (pc1 := 159) (L1 := [some (.ref 211), d1, d2]) (st1 := [.ref 211]) (M1 := mjTo Z121) rfl ?_
    refine pG_getR (ci := 12) (f := 30) (b := 220) rfl rfl rfl (by rfl) rfl ?_
    refine pG_many 1 (pc1 := 163) (L1 := [some (.ref 211), d1, d2]) (st1 := [.ref 211, .ref 220]) (M1 := mjTo Z121) rfl ?_
    refine pG_getI (ci := 12) (f := 21) rfl rfl (Or.inl rfl) (by rfl) ?_
    refine pG_many 1 (pc1 := 167) (L1 := [some (.ref 211), d1, d2]) (st1 := [.int 0, .int (Z121.1 211 21), .ref 220]) (M1 := mjTo Z121) rfl ?_
    have hk122 : mjIn (Z121.1 211 21) 6 = true := by
      by_cases q9 : mjIn (Z121.1 211 21) 6 = true
      · exact q9
      · rw [if_neg q9] at h; cases h
    rw [if_pos hk122] at h
    refine pG_ias rfl (by rfl) hk122 (?_ : pG 227 168 [some (.ref 211), d1, d2] [] (mjTo (zSi Z121 220 (mjIx (Z121.1 211 21)) 0)) _)
    rw [mjLet] at h
    generalize zSi Z121 220 (mjIx (Z121.1 211 21)) 0 = Z123 at h ⊢
    refine pG_many 2 (pc1 := 170) (L1 := [some (.ref 211), d1, d2]) (st1 := [.ref 211, .ref 211]) (M1 := mjTo Z123) rfl ?_
    refine pG_getI (ci := 12) (f := 21) rfl rfl (Or.inl rfl) (by rfl) ?_
    refine pG_many 2 (pc1 := 175) (L1 := [some (.ref 211), d1, d2]) (st1 := [.int ((Z123.1 211 21) + 1), .ref 211]) (M1 := mjTo Z123) rfl ?_
    refine pG_putI (ci := 12) (f := 21) rfl rfl rfl rfl (by rfl) ?_
    rw [mjLet] at h
    generalize zSi Z123 211 21 ((Z123.1 211 21) + 1) = Z124 at h ⊢
    refine pG_many 1 (pc1 := 179) (L1 := [some (.ref 211), d1, d2]) (st1 := [.ref 211]) (M1 := mjTo Z124) rfl ?_
    cases hq125 : f205_goOn  Z124 with
    | none => rw [hq125] at h; cases h
    | some w =>
      obtain ⟨v126, Z127⟩ := w
      rw [hq125, mjBd_some] at h
      refine pG_callV (k2 := 205) (As := [.ref 211]) (rest := []) rfl rfl rfl rfl rfl (by rfl) (by decide) (f205_goOn_ok hq125) ?_
      rintro r9 M9 ⟨rfl, rfl⟩
      show pG 227 182 [some (.ref 211), d1, d2] [] (mjTo Z127) _
      simp only [Option.some.injEq, Prod.mk.injEq] at h
      obtain ⟨-, rfl⟩ := h
      exact pG_ret (r := none) rfl ⟨rfl, rfl⟩
  · rw [if_neg hc119] at h
    refine pG_iff (t := 145) rfl rfl hc119 ?_
    simp only [Option.some.injEq, Prod.mk.injEq] at h
    obtain ⟨-, rfl⟩ := h
    exact pG_ret (r := none) rfl ⟨rfl, rfl⟩
def f227_teamLine_j132  (Z : mjZt) : Option (Unit × mjZt) :=
  mjBd (f206_wrong 4 Z) fun _ Z134 =>
  f227_teamLine_j137  Z134
theorem f227_teamLine_j132_ok  (d1 d2 : Option Value) (Z : mjZt) (v9 : Unit) (Z9 : mjZt) (h : f227_teamLine_j132  Z = some (v9, Z9)) : pG 227 132 [some (.ref 211), d1, d2] [] (mjTo Z) (fun r M1 => r = none ∧ M1 = mjTo Z9) := by
  unfold f227_teamLine_j132 at h
  refine pG_many 2 (pc1 := 134) (L1 := [some (.ref 211), d1, d2]) (st1 := [.int 4, .ref 211]) (M1 := mjTo Z) rfl ?_
  cases hq132 : f206_wrong 4 Z with
  | none => rw [hq132] at h; cases h
  | some w =>
    obtain ⟨v133, Z134⟩ := w
    rw [hq132, mjBd_some] at h
    refine pG_callV (k2 := 206) (As := [.ref 211, .int 4]) (rest := []) rfl rfl rfl rfl rfl (by rfl) (by decide) (f206_wrong_ok hq132) ?_
    rintro r9 M9 ⟨rfl, rfl⟩
    show pG 227 137 [some (.ref 211), d1, d2] [] (mjTo Z134) _
    exact f227_teamLine_j137_ok d1 d2 Z134 v9 Z9 h
def f227_teamLine_h69 : Nat → Int32 → Int32 → mjZt → Option (Unit × mjZt)
  | 0, _, _, _ => none
  | n + 1, x1, x2, Z =>
    if mjCmp .ge x2 (Z.1 211 21) = true then
      mjBp (f207_isGood  Z) fun v116 =>
      if mjCmp .eq v116 0 = true then
        f227_teamLine_j137  Z
      else
        mjBp (f195_isIn (Int32.toInt64 (Z.1 211 8)) 1 9 Z) fun v129 =>
        if mjCmp .eq v129 0 = true then
          f227_teamLine_j132  Z
        else
          if mjCmp .eq x1 0 = true then
            f227_teamLine_j137  Z
          else
            f227_teamLine_j132  Z
    else
      if mjCmp .ne x1 0 = true then
        f227_teamLine_h69 n 1 (x2 + 1) Z
      else
        if mjIn x2 6 = true then
        if mjCmp .ne (Z.1 219 (mjIx x2)) (Z.1 211 8) = true then
          f227_teamLine_h69 n 0 (x2 + 1) Z
        else
          f227_teamLine_h69 n 1 (x2 + 1) Z
        else none
theorem f227_teamLine_h69_ok : ∀ (n : Nat) (x1 : Int32) (x2 : Int32) (Z : mjZt) (v9 : Unit) (Z9 : mjZt), f227_teamLine_h69 n x1 x2 Z = some (v9, Z9) → pG 227 69 [some (.ref 211), some (.int x1), some (.int x2)] [] (mjTo Z) (fun r M1 => r = none ∧ M1 = mjTo Z9)
  | 0, x1, x2, Z, v9, Z9, h => by rw [f227_teamLine_h69] at h; cases h
  | n + 1, x1, x2, Z, v9, Z9, h => by
      rw [f227_teamLine_h69] at h
      refine pG_many 2 (pc1 := 71) (L1 := [some (.ref 211), some (.int x1), some (.int x2)]) (st1 := [.ref 211, .int x2]) (M1 := mjTo Z) rfl ?_
      refine pG_getI (ci := 12) (f := 21) rfl rfl (Or.inl rfl) (by rfl) ?_
      by_cases hc114 : mjCmp .ge x2 (Z.1 211 21) = true
      · rw [if_pos hc114] at h
        refine pG_cmt (t := 106) rfl rfl hc114 ?_
        refine pG_many 1 (pc1 := 107) (L1 := [some (.ref 211), some (.int x1), some (.int x2)]) (st1 := [.ref 211]) (M1 := mjTo Z) rfl ?_
        cases hq115 : f207_isGood  Z with
        | none => rw [hq115] at h; cases h
        | some v116 =>
          rw [hq115, mjBp_some] at h
          refine pG_callV (k2 := 207) (As := [.ref 211]) (rest := []) rfl rfl rfl rfl rfl (by rfl) (by decide) (f207_isGood_ok hq115) ?_
          rintro r9 M9 ⟨rfl, rfl⟩
          show pG 227 110 [some (.ref 211), some (.int x1), some (.int x2)] [.int v116] (mjTo Z) _
          by_cases hc118 : mjCmp .eq v116 0 = true
          · rw [if_pos hc118] at h
            refine pG_ift (t := 137) rfl rfl hc118 ?_
            exact f227_teamLine_j137_ok (some (.int x1)) (some (.int x2)) Z v9 Z9 h
          · rw [if_neg hc118] at h
            refine pG_iff (t := 137) rfl rfl hc118 ?_
            refine pG_many 1 (pc1 := 114) (L1 := [some (.ref 211), some (.int x1), some (.int x2)]) (st1 := [.ref 211]) (M1 := mjTo Z) rfl ?_
            refine pG_getI (ci := 12) (f := 8) rfl rfl (Or.inl rfl) (by rfl) ?_
            refine pG_many 3 (pc1 := 122) (L1 := [some (.ref 211), some (.int x1), some (.int x2)]) (st1 := [.long 9, .long 1, .long (Int32.toInt64 (Z.1 211 8))]) (M1 := mjTo Z) rfl ?_
            cases hq128 : f195_isIn (Int32.toInt64 (Z.1 211 8)) 1 9 Z with
            | none => rw [hq128] at h; cases h
            | some v129 =>
              rw [hq128, mjBp_some] at h
              refine pG_call (k2 := 195) (As := [.long (Int32.toInt64 (Z.1 211 8)), .long 1, .long 9]) (rest := []) rfl (by decide) (f195_isIn_ok hq128) ?_
              rintro r9 M9 ⟨rfl, rfl⟩
              show pG 227 125 [some (.ref 211), some (.int x1), some (.int x2)] [.int v129] (mjTo Z) _
              by_cases hc131 : mjCmp .eq v129 0 = true
              · rw [if_pos hc131] at h
                refine pG_ift (t := 132) rfl rfl hc131 ?_
                exact f227_teamLine_j132_ok (some (.int x1)) (some (.int x2)) Z v9 Z9 h
              · rw [if_neg hc131] at h
                refine pG_iff (t := 132) rfl rfl hc131 ?_
                refine pG_many 1 (pc1 := 129) (L1 := [some (.ref 211), some (.int x1), some (.int x2)]) (st1 := [.int x1]) (M1 := mjTo Z) rfl ?_
                by_cases hc135 : mjCmp .eq x1 0 = true
                · rw [if_pos hc135] at h
                  refine pG_ift (t := 137) rfl rfl hc135 ?_
                  exact f227_teamLine_j137_ok (some (.int x1)) (some (.int x2)) Z v9 Z9 h
                · rw [if_neg hc135] at h
                  refine pG_iff (t := 137) rfl rfl hc135 ?_
                  exact f227_teamLine_j132_ok (some (.int x1)) (some (.int x2)) Z v9 Z9 h
      · rw [if_neg hc114] at h
        refine pG_cmf (t := 106) rfl rfl hc114 ?_
        refine pG_many 1 (pc1 := 78) (L1 := [some (.ref 211), some (.int x1), some (.int x2)]) (st1 := [.int x1]) (M1 := mjTo Z) rfl ?_
        by_cases hc136 : mjCmp .ne x1 0 = true
        · rw [if_pos hc136] at h
          refine pG_ift (t := 94) rfl rfl hc136 ?_
          refine pG_many 5 (pc1 := 69) (L1 := [some (.ref 211), some (.int 1), some (.int (x2 + 1))]) (st1 := []) (M1 := mjTo Z) rfl ?_
          exact f227_teamLine_h69_ok n 1 (x2 + 1) Z v9 Z9 h
        · rw [if_neg hc136] at h
          refine pG_iff (t := 94) rfl rfl hc136 ?_
          refine pG_many 1 (pc1 := 82) (L1 := [some (.ref 211), some (.int x1), some (.int x2)]) (st1 := [.ref 211]) (M1 := mjTo Z) rfl ?_
          refine pG_getR (ci := 12) (f := 29) (b := 219) rfl rfl rfl (by rfl) rfl ?_
          refine pG_many 1 (pc1 := 86) (L1 := [some (.ref 211), some (.int x1), some (.int x2)]) (st1 := [.int x2, .ref 219]) (M1 := mjTo Z) rfl ?_
          have hk137 : mjIn x2 6 = true := by
            by_cases q9 : mjIn x2 6 = true
            · exact q9
            · rw [if_neg q9] at h; cases h
          rw [if_pos hk137] at h
          refine pG_ial rfl (by rfl) hk137 ?_
          refine pG_many 1 (pc1 := 88) (L1 := [some (.ref 211), some (.int x1), some (.int x2)]) (st1 := [.ref 211, .int (Z.1 219 (mjIx x2))]) (M1 := mjTo Z) rfl ?_
          refine pG_getI (ci := 12) (f := 8) rfl rfl (Or.inl rfl) (by rfl) ?_
          by_cases hc138 : mjCmp .ne (Z.1 219 (mjIx x2)) (Z.1 211 8) = true
          · rw [if_pos hc138] at h
            refine pG_cmt (t := 98) rfl rfl hc138 ?_
            refine pG_many 4 (pc1 := 69) (L1 := [some (.ref 211), some (.int 0), some (.int (x2 + 1))]) (st1 := []) (M1 := mjTo Z) rfl ?_
            exact f227_teamLine_h69_ok n 0 (x2 + 1) Z v9 Z9 h
          · rw [if_neg hc138] at h
            refine pG_cmf (t := 98) rfl rfl hc138 ?_
            refine pG_many 5 (pc1 := 69) (L1 := [some (.ref 211), some (.int 1), some (.int (x2 + 1))]) (st1 := []) (M1 := mjTo Z) rfl ?_
            exact f227_teamLine_h69_ok n 1 (x2 + 1) Z v9 Z9 h
def f227_teamLine_j65  (Z : mjZt) : Option (Unit × mjZt) :=
  f227_teamLine_h69 mjF 0 0 Z
theorem f227_teamLine_j65_ok  (d1 d2 : Option Value) (Z : mjZt) (v9 : Unit) (Z9 : mjZt) (h : f227_teamLine_j65  Z = some (v9, Z9)) : pG 227 65 [some (.ref 211), d1, d2] [] (mjTo Z) (fun r M1 => r = none ∧ M1 = mjTo Z9) := by
  unfold f227_teamLine_j65 at h
  refine pG_many 4 (pc1 := 69) (L1 := [some (.ref 211), some (.int 0), some (.int 0)]) (st1 := []) (M1 := mjTo Z) rfl ?_
  exact f227_teamLine_h69_ok mjF 0 0 Z v9 Z9 h
def f227_teamLine_j25  (Z : mjZt) : Option (Unit × mjZt) :=
  if mjCmp .le (Z.1 211 9) 0 = true then
    mjBd (f225_freshName 227 (Z.1 211 21) Z) fun _ Z109 =>
    mjBp (f207_isGood  Z109) fun v111 =>
    if mjCmp .eq v111 0 = true then
      f227_teamLine_j65  Z109
    else
      if mjCmp .eq (Z109.1 211 7) 2 = true then
        f227_teamLine_j65  Z109
      else
        mjBd (f206_wrong 2 Z109) fun _ Z142 =>
        f227_teamLine_j65  Z142
  else
    some ((), Z)
theorem f227_teamLine_j25_ok  (d1 d2 : Option Value) (Z : mjZt) (v9 : Unit) (Z9 : mjZt) (h : f227_teamLine_j25  Z = some (v9, Z9)) : pG 227 25 [some (.ref 211), d1, d2] [] (mjTo Z) (fun r M1 => r = none ∧ M1 = mjTo Z9) := by
  unfold f227_teamLine_j25 at h
  refine pG_many 1 (pc1 := 26) (L1 := [some (.ref 211), d1, d2]) (st1 := [.ref 211]) (M1 := mjTo Z) rfl ?_
  refine pG_getI (ci := 12) (f := 9) rfl rfl (Or.inl rfl) (by rfl) ?_
  by_cases hc106 : mjCmp .le (Z.1 211 9) 0 = true
  · rw [if_pos hc106] at h
    refine pG_ift (t := 33) rfl rfl hc106 ?_
    refine pG_many 2 (pc1 := 35) (L1 := [some (.ref 211), d1, d2]) (st1 := [.ref 211, .ref 211]) (M1 := mjTo Z) rfl ?_
    refine pG_getR (ci := 12) (f := 37) (b := 227) rfl rfl rfl (by rfl) rfl ?_
    refine pG_many 1 (pc1 := 39) (L1 := [some (.ref 211), d1, d2]) (st1 := [.ref 211, .ref 227, .ref 211]) (M1 := mjTo Z) rfl ?_
    refine pG_getI (ci := 12) (f := 21) rfl rfl (Or.inl rfl) (by rfl) ?_
    cases hq107 : f225_freshName 227 (Z.1 211 21) Z with
    | none => rw [hq107] at h; cases h
    | some w =>
      obtain ⟨v108, Z109⟩ := w
      rw [hq107, mjBd_some] at h
      refine pG_callV (k2 := 225) (As := [.ref 211, .ref 227, .int (Z.1 211 21)]) (rest := []) rfl rfl rfl rfl rfl (by rfl) (by decide) (f225_freshName_ok hq107) ?_
      rintro r9 M9 ⟨rfl, rfl⟩
      show pG 227 45 [some (.ref 211), d1, d2] [] (mjTo Z109) _
      refine pG_many 1 (pc1 := 46) (L1 := [some (.ref 211), d1, d2]) (st1 := [.ref 211]) (M1 := mjTo Z109) rfl ?_
      cases hq110 : f207_isGood  Z109 with
      | none => rw [hq110] at h; cases h
      | some v111 =>
        rw [hq110, mjBp_some] at h
        refine pG_callV (k2 := 207) (As := [.ref 211]) (rest := []) rfl rfl rfl rfl rfl (by rfl) (by decide) (f207_isGood_ok hq110) ?_
        rintro r9 M9 ⟨rfl, rfl⟩
        show pG 227 49 [some (.ref 211), d1, d2] [.int v111] (mjTo Z109) _
        by_cases hc113 : mjCmp .eq v111 0 = true
        · rw [if_pos hc113] at h
          refine pG_ift (t := 65) rfl rfl hc113 ?_
          exact f227_teamLine_j65_ok d1 d2 Z109 v9 Z9 h
        · rw [if_neg hc113] at h
          refine pG_iff (t := 65) rfl rfl hc113 ?_
          refine pG_many 1 (pc1 := 53) (L1 := [some (.ref 211), d1, d2]) (st1 := [.ref 211]) (M1 := mjTo Z109) rfl ?_
          refine pG_getI (ci := 12) (f := 7) rfl rfl (Or.inl rfl) (by rfl) ?_
          refine pG_many 1 (pc1 := 57) (L1 := [some (.ref 211), d1, d2]) (st1 := [.int 2, .int (Z109.1 211 7)]) (M1 := mjTo Z109) rfl ?_
          by_cases hc139 : mjCmp .eq (Z109.1 211 7) 2 = true
          · rw [if_pos hc139] at h
            refine pG_cmt (t := 65) rfl rfl hc139 ?_
            exact f227_teamLine_j65_ok d1 d2 Z109 v9 Z9 h
          · rw [if_neg hc139] at h
            refine pG_cmf (t := 65) rfl rfl hc139 ?_
            refine pG_many 2 (pc1 := 62) (L1 := [some (.ref 211), d1, d2]) (st1 := [.int 2, .ref 211]) (M1 := mjTo Z109) rfl ?_
            cases hq140 : f206_wrong 2 Z109 with
            | none => rw [hq140] at h; cases h
            | some w =>
              obtain ⟨v141, Z142⟩ := w
              rw [hq140, mjBd_some] at h
              refine pG_callV (k2 := 206) (As := [.ref 211, .int 2]) (rest := []) rfl rfl rfl rfl rfl (by rfl) (by decide) (f206_wrong_ok hq140) ?_
              rintro r9 M9 ⟨rfl, rfl⟩
              show pG 227 65 [some (.ref 211), d1, d2] [] (mjTo Z142) _
              exact f227_teamLine_j65_ok d1 d2 Z142 v9 Z9 h
  · rw [if_neg hc106] at h
    refine pG_iff (t := 33) rfl rfl hc106 ?_
    simp only [Option.some.injEq, Prod.mk.injEq] at h
    obtain ⟨-, rfl⟩ := h
    exact pG_ret (r := none) rfl ⟨rfl, rfl⟩
def f227_teamLine_j14  (Z : mjZt) : Option (Unit × mjZt) :=
  mjBp (f207_isGood  Z) fun v103 =>
  if mjCmp .eq v103 0 = true then
    f227_teamLine_j25  Z
  else
    mjBd (f205_goOn  Z) fun _ Z145 =>
    f227_teamLine_j25  Z145
theorem f227_teamLine_j14_ok  (d1 d2 : Option Value) (Z : mjZt) (v9 : Unit) (Z9 : mjZt) (h : f227_teamLine_j14  Z = some (v9, Z9)) : pG 227 14 [some (.ref 211), d1, d2] [] (mjTo Z) (fun r M1 => r = none ∧ M1 = mjTo Z9) := by
  unfold f227_teamLine_j14 at h
  refine pG_many 1 (pc1 := 15) (L1 := [some (.ref 211), d1, d2]) (st1 := [.ref 211]) (M1 := mjTo Z) rfl ?_
  cases hq102 : f207_isGood  Z with
  | none => rw [hq102] at h; cases h
  | some v103 =>
    rw [hq102, mjBp_some] at h
    refine pG_callV (k2 := 207) (As := [.ref 211]) (rest := []) rfl rfl rfl rfl rfl (by rfl) (by decide) (f207_isGood_ok hq102) ?_
    rintro r9 M9 ⟨rfl, rfl⟩
    show pG 227 18 [some (.ref 211), d1, d2] [.int v103] (mjTo Z) _
    by_cases hc105 : mjCmp .eq v103 0 = true
    · rw [if_pos hc105] at h
      refine pG_ift (t := 25) rfl rfl hc105 ?_
      exact f227_teamLine_j25_ok d1 d2 Z v9 Z9 h
    · rw [if_neg hc105] at h
      refine pG_iff (t := 25) rfl rfl hc105 ?_
      refine pG_many 1 (pc1 := 22) (L1 := [some (.ref 211), d1, d2]) (st1 := [.ref 211]) (M1 := mjTo Z) rfl ?_
      cases hq143 : f205_goOn  Z with
      | none => rw [hq143] at h; cases h
      | some w =>
        obtain ⟨v144, Z145⟩ := w
        rw [hq143, mjBd_some] at h
        refine pG_callV (k2 := 205) (As := [.ref 211]) (rest := []) rfl rfl rfl rfl rfl (by rfl) (by decide) (f205_goOn_ok hq143) ?_
        rintro r9 M9 ⟨rfl, rfl⟩
        show pG 227 25 [some (.ref 211), d1, d2] [] (mjTo Z145) _
        exact f227_teamLine_j25_ok d1 d2 Z145 v9 Z9 h
def f227_teamLine  (Z : mjZt) : Option (Unit × mjZt) :=
  if mjCmp .ne (Z.1 211 21) 6 = true then
    f227_teamLine_j14  Z
  else
    mjBd (f206_wrong 5 Z) fun _ Z148 =>
    f227_teamLine_j14  Z148
theorem f227_teamLine_ok  {Z : mjZt} {v9 : Unit} {Z9 : mjZt} (h : f227_teamLine  Z = some (v9, Z9)) : pG 227 0 (mjEnt [.ref 211] (mjML 227)) [] (mjTo Z) (fun r M1 => r = none ∧ M1 = mjTo Z9) := by
  unfold f227_teamLine at h
  show pG 227 0 [some (.ref 211), none, none] [] (mjTo Z) _
  refine pG_many 1 (pc1 := 1) (L1 := [some (.ref 211), none, none]) (st1 := [.ref 211]) (M1 := mjTo Z) rfl ?_
  refine pG_getI (ci := 12) (f := 21) rfl rfl (Or.inl rfl) (by rfl) ?_
  refine pG_many 1 (pc1 := 6) (L1 := [some (.ref 211), none, none]) (st1 := [.int 6, .int (Z.1 211 21)]) (M1 := mjTo Z) rfl ?_
  by_cases hc101 : mjCmp .ne (Z.1 211 21) 6 = true
  · rw [if_pos hc101] at h
    refine pG_cmt (t := 14) rfl rfl hc101 ?_
    exact f227_teamLine_j14_ok none none Z v9 Z9 h
  · rw [if_neg hc101] at h
    refine pG_cmf (t := 14) rfl rfl hc101 ?_
    refine pG_many 2 (pc1 := 11) (L1 := [some (.ref 211), none, none]) (st1 := [.int 5, .ref 211]) (M1 := mjTo Z) rfl ?_
    cases hq146 : f206_wrong 5 Z with
    | none => rw [hq146] at h; cases h
    | some w =>
      obtain ⟨v147, Z148⟩ := w
      rw [hq146, mjBd_some] at h
      refine pG_callV (k2 := 206) (As := [.ref 211, .int 5]) (rest := []) rfl rfl rfl rfl rfl (by rfl) (by decide) (f206_wrong_ok hq146) ?_
      rintro r9 M9 ⟨rfl, rfl⟩
      show pG 227 14 [some (.ref 211), none, none] [] (mjTo Z148) _
      exact f227_teamLine_j14_ok none none Z148 v9 Z9 h
def f228_runsLine_j168 (x1 : Int32) (s1 : Int32) (s2 : Int32) (Z : mjZt) : Option (Unit × mjZt) :=
  if mjIn s1 108 = true then
  mjLet (zSi Z 221 (mjIx s1) s2) fun Z134 =>
  if mjIn x1 6 = true then
  mjLet (zSi Z134 220 (mjIx x1) ((Z134.1 220 (mjIx x1)) + 1)) fun Z136 =>
  some ((), Z136)
  else none
  else none
theorem f228_runsLine_j168_ok (x1 : Int32) (s1 : Int32) (s2 : Int32) (d2 d3 d4 : Option Value) (Z : mjZt) (v9 : Unit) (Z9 : mjZt) (h : f228_runsLine_j168 x1 s1 s2 Z = some (v9, Z9)) : pG 228 168 [some (.ref 211), some (.int x1), d2, d3, d4] [.int s2, .int s1, .ref 221] (mjTo Z) (fun r M1 => r = none ∧ M1 = mjTo Z9) := by
  unfold f228_runsLine_j168 at h
  have hk133 : mjIn s1 108 = true := by
    by_cases q9 : mjIn s1 108 = true
    · exact q9
    · rw [if_neg q9] at h; cases h
  rw [if_pos hk133] at h
  refine pG_ias rfl (by rfl) hk133 (?_ : pG 228 169 [some (.ref 211), some (.int x1), d2, d3, d4] [] (mjTo (zSi Z 221 (mjIx s1) s2)) _)
  rw [mjLet] at h
  generalize zSi Z 221 (mjIx s1) s2 = Z134 at h ⊢
  refine pG_many 1 (pc1 := 170) (L1 := [some (.ref 211), some (.int x1), d2, d3, d4]) (st1 := [.ref 211]) (M1 := mjTo Z134) rfl ?_
  refine pG_getR (ci := 12) (f := 30) (b := 220) rfl rfl rfl (by rfl) rfl ?_
  refine pG_many 2 (pc1 := 175) (L1 := [some (.ref 211), some (.int x1), d2, d3, d4]) (st1 := [.int x1, .ref 220, .int x1, .ref 220]) (M1 := mjTo Z134) rfl ?_
  have hk135 : mjIn x1 6 = true := by
    by_cases q9 : mjIn x1 6 = true
    · exact q9
    · rw [if_neg q9] at h; cases h
  rw [if_pos hk135] at h
  refine pG_ial rfl (by rfl) hk135 ?_
  refine pG_many 2 (pc1 := 178) (L1 := [some (.ref 211), some (.int x1), d2, d3, d4]) (st1 := [.int ((Z134.1 220 (mjIx x1)) + 1), .int x1, .ref 220]) (M1 := mjTo Z134) rfl ?_
  refine pG_ias rfl (by rfl) hk135 (?_ : pG 228 179 [some (.ref 211), some (.int x1), d2, d3, d4] [] (mjTo (zSi Z134 220 (mjIx x1) ((Z134.1 220 (mjIx x1)) + 1))) _)
  rw [mjLet] at h
  generalize zSi Z134 220 (mjIx x1) ((Z134.1 220 (mjIx x1)) + 1) = Z136 at h ⊢
  simp only [Option.some.injEq, Prod.mk.injEq] at h
  obtain ⟨-, rfl⟩ := h
  exact pG_ret (r := none) rfl ⟨rfl, rfl⟩
def f228_runsLine_j105 (x1 : Int32) (x2 : Int32) (x3 : Int32) (s1 : Int32) (s2 : Int32) (Z : mjZt) : Option (Unit × mjZt) :=
  mjBd (f213_number s1 s2 Z) fun v126 Z127 =>
  if mjCmp .le (Z127.1 211 9) 0 = true then
    if mjIn x1 6 = true then
    if mjIn ((12 * x1) + (2 * (Z127.1 220 (mjIx x1)))) 108 = true then
    mjLet (zSi Z127 221 (mjIx ((12 * x1) + (2 * (Z127.1 220 (mjIx x1))))) x2) fun Z131 =>
    if mjCmp .eq x3 0 = true then
      f228_runsLine_j168 x1 (((12 * x1) + (2 * (Z131.1 220 (mjIx x1)))) + 1) v126 Z131
    else
      f228_runsLine_j168 x1 (((12 * x1) + (2 * (Z131.1 220 (mjIx x1)))) + 1) (-v126) Z131
    else none
    else none
  else
    some ((), Z127)
theorem f228_runsLine_j105_ok (x1 : Int32) (x2 : Int32) (x3 : Int32) (s1 : Int32) (s2 : Int32) (d4 : Option Value) (Z : mjZt) (v9 : Unit) (Z9 : mjZt) (h : f228_runsLine_j105 x1 x2 x3 s1 s2 Z = some (v9, Z9)) : pG 228 105 [some (.ref 211), some (.int x1), some (.int x2), some (.int x3), d4] [.int s2, .int s1, .ref 211] (mjTo Z) (fun r M1 => r = none ∧ M1 = mjTo Z9) := by
  unfold f228_runsLine_j105 at h
  cases hq125 : f213_number s1 s2 Z with
  | none => rw [hq125] at h; cases h
  | some w =>
    obtain ⟨v126, Z127⟩ := w
    rw [hq125, mjBd_some] at h
    refine pG_callV (k2 := 213) (As := [.ref 211, .int s1, .int s2]) (rest := []) rfl rfl rfl rfl rfl (by rfl) (by decide) (f213_number_ok hq125) ?_
    rintro r9 M9 ⟨rfl, rfl⟩
    show pG 228 108 [some (.ref 211), some (.int x1), some (.int x2), some (.int x3), d4] [.int v126] (mjTo Z127) _
    refine pG_many 2 (pc1 := 111) (L1 := [some (.ref 211), some (.int x1), some (.int x2), some (.int x3), some (.int v126)]) (st1 := [.ref 211]) (M1 := mjTo Z127) rfl ?_
    refine pG_getI (ci := 12) (f := 9) rfl rfl (Or.inl rfl) (by rfl) ?_
    by_cases hc128 : mjCmp .le (Z127.1 211 9) 0 = true
    · rw [if_pos hc128] at h
      refine pG_ift (t := 118) rfl rfl hc128 ?_
      refine pG_many 1 (pc1 := 119) (L1 := [some (.ref 211), some (.int x1), some (.int x2), some (.int x3), some (.int v126)]) (st1 := [.ref 211]) (M1 := mjTo Z127) rfl ?_
      refine pG_getR (ci := 12) (f := 31) (b := 221) rfl rfl rfl (by rfl) rfl ?_
      refine pG_many 5 (pc1 := 128) (L1 := [some (.ref 211), some (.int x1), some (.int x2), some (.int x3), some (.int v126)]) (st1 := [.ref 211, .int 2, .int (12 * x1), .ref 221]) (M1 := mjTo Z127) rfl ?_
      refine pG_getR (ci := 12) (f := 30) (b := 220) rfl rfl rfl (by rfl) rfl ?_
      refine pG_many 1 (pc1 := 132) (L1 := [some (.ref 211), some (.int x1), some (.int x2), some (.int x3), some (.int v126)]) (st1 := [.int x1, .ref 220, .int 2, .int (12 * x1), .ref 221]) (M1 := mjTo Z127) rfl ?_
      have hk129 : mjIn x1 6 = true := by
        by_cases q9 : mjIn x1 6 = true
        · exact q9
        · rw [if_neg q9] at h; cases h
      rw [if_pos hk129] at h
      refine pG_ial rfl (by rfl) hk129 ?_
      refine pG_many 3 (pc1 := 136) (L1 := [some (.ref 211), some (.int x1), some (.int x2), some (.int x3), some (.int v126)]) (st1 := [.int x2, .int ((12 * x1) + (2 * (Z127.1 220 (mjIx x1)))), .ref 221]) (M1 := mjTo Z127) rfl ?_
      have hk130 : mjIn ((12 * x1) + (2 * (Z127.1 220 (mjIx x1)))) 108 = true := by
        by_cases q9 : mjIn ((12 * x1) + (2 * (Z127.1 220 (mjIx x1)))) 108 = true
        · exact q9
        · rw [if_neg q9] at h; cases h
      rw [if_pos hk130] at h
      refine pG_ias rfl (by rfl) hk130 (?_ : pG 228 137 [some (.ref 211), some (.int x1), some (.int x2), some (.int x3), some (.int v126)] [] (mjTo (zSi Z127 221 (mjIx ((12 * x1) + (2 * (Z127.1 220 (mjIx x1))))) x2)) _)
      rw [mjLet] at h
      generalize zSi Z127 221 (mjIx ((12 * x1) + (2 * (Z127.1 220 (mjIx x1))))) x2 = Z131 at h ⊢
      refine pG_many 1 (pc1 := 138) (L1 := [some (.ref 211), some (.int x1), some (.int x2), some (.int x3), some (.int v126)]) (st1 := [.ref 211]) (M1 := mjTo Z131) rfl ?_
      refine pG_getR (ci := 12) (f := 31) (b := 221) rfl rfl rfl (by rfl) rfl ?_
      refine pG_many 5 (pc1 := 147) (L1 := [some (.ref 211), some (.int x1), some (.int x2), some (.int x3), some (.int v126)]) (st1 := [.ref 211, .int 2, .int (12 * x1), .ref 221]) (M1 := mjTo Z131) rfl ?_
      refine pG_getR (ci := 12) (f := 30) (b := 220) rfl rfl rfl (by rfl) rfl ?_
      refine pG_many 1 (pc1 := 151) (L1 := [some (.ref 211), some (.int x1), some (.int x2), some (.int x3), some (.int v126)]) (st1 := [.int x1, .ref 220, .int 2, .int (12 * x1), .ref 221]) (M1 := mjTo Z131) rfl ?_
      refine pG_ial rfl (by rfl) hk129 ?_
      refine pG_many 5 (pc1 := 157) (L1 := [some (.ref 211), some (.int x1), some (.int x2), some (.int x3), some (.int v126)]) (st1 := [.int x3, .int (((12 * x1) + (2 * (Z131.1 220 (mjIx x1)))) + 1), .ref 221]) (M1 := mjTo Z131) rfl ?_
      by_cases hc132 : mjCmp .eq x3 0 = true
      · rw [if_pos hc132] at h
        refine pG_ift (t := 166) rfl rfl hc132 ?_
        refine pG_many 1 (pc1 := 168) (L1 := [some (.ref 211), some (.int x1), some (.int x2), some (.int x3), some (.int v126)]) (st1 := [.int v126, .int (((12 * x1) + (2 * (Z131.1 220 (mjIx x1)))) + 1), .ref 221]) (M1 := mjTo Z131) rfl ?_
        exact f228_runsLine_j168_ok x1 (((12 * x1) + (2 * (Z131.1 220 (mjIx x1)))) + 1) v126 (some (.int x2)) (some (.int x3)) (some (.int v126)) Z131 v9 Z9 h
      · rw [if_neg hc132] at h
        refine pG_iff (t := 166) rfl rfl hc132 ?_
        refine pG_many 3 (pc1 := 168) (L1 := [some (.ref 211), some (.int x1), some (.int x2), some (.int x3), some (.int v126)]) (st1 := [.int (-v126), .int (((12 * x1) + (2 * (Z131.1 220 (mjIx x1)))) + 1), .ref 221]) (M1 := mjTo Z131) rfl ?_
        exact f228_runsLine_j168_ok x1 (((12 * x1) + (2 * (Z131.1 220 (mjIx x1)))) + 1) (-v126) (some (.int x2)) (some (.int x3)) (some (.int v126)) Z131 v9 Z9 h
    · rw [if_neg hc128] at h
      refine pG_iff (t := 118) rfl rfl hc128 ?_
      simp only [Option.some.injEq, Prod.mk.injEq] at h
      obtain ⟨-, rfl⟩ := h
      exact pG_ret (r := none) rfl ⟨rfl, rfl⟩
def f228_runsLine_j72 (x1 : Int32) (x2 : Int32) (x3 : Int32) (Z : mjZt) : Option (Unit × mjZt) :=
  if mjCmp .le (Z.1 211 9) 0 = true then
    if mjIn x1 6 = true then
    if mjCmp .ne ((Z.1 220 (mjIx x1)) + 1) (Z.1 218 0) = true then
      f228_runsLine_j105 x1 x2 x3 0 20 Z
    else
      f228_runsLine_j105 x1 x2 x3 0 0 Z
    else none
  else
    some ((), Z)
theorem f228_runsLine_j72_ok (x1 : Int32) (x2 : Int32) (x3 : Int32) (d4 : Option Value) (Z : mjZt) (v9 : Unit) (Z9 : mjZt) (h : f228_runsLine_j72 x1 x2 x3 Z = some (v9, Z9)) : pG 228 72 [some (.ref 211), some (.int x1), some (.int x2), some (.int x3), d4] [] (mjTo Z) (fun r M1 => r = none ∧ M1 = mjTo Z9) := by
  unfold f228_runsLine_j72 at h
  refine pG_many 1 (pc1 := 73) (L1 := [some (.ref 211), some (.int x1), some (.int x2), some (.int x3), d4]) (st1 := [.ref 211]) (M1 := mjTo Z) rfl ?_
  refine pG_getI (ci := 12) (f := 9) rfl rfl (Or.inl rfl) (by rfl) ?_
  by_cases hc122 : mjCmp .le (Z.1 211 9) 0 = true
  · rw [if_pos hc122] at h
    refine pG_ift (t := 80) rfl rfl hc122 ?_
    refine pG_many 3 (pc1 := 83) (L1 := [some (.ref 211), some (.int x1), some (.int x2), some (.int x3), d4]) (st1 := [.ref 211, .int 0, .ref 211]) (M1 := mjTo Z) rfl ?_
    refine pG_getR (ci := 12) (f := 30) (b := 220) rfl rfl rfl (by rfl) rfl ?_
    refine pG_many 1 (pc1 := 87) (L1 := [some (.ref 211), some (.int x1), some (.int x2), some (.int x3), d4]) (st1 := [.int x1, .ref 220, .int 0, .ref 211]) (M1 := mjTo Z) rfl ?_
    have hk123 : mjIn x1 6 = true := by
      by_cases q9 : mjIn x1 6 = true
      · exact q9
      · rw [if_neg q9] at h; cases h
    rw [if_pos hk123] at h
    refine pG_ial rfl (by rfl) hk123 ?_
    refine pG_many 3 (pc1 := 91) (L1 := [some (.ref 211), some (.int x1), some (.int x2), some (.int x3), d4]) (st1 := [.ref 211, .int ((Z.1 220 (mjIx x1)) + 1), .int 0, .ref 211]) (M1 := mjTo Z) rfl ?_
    refine pG_getR (ci := 12) (f := 28) (b := 218) rfl rfl rfl (by rfl) rfl ?_
    refine pG_many 1 (pc1 := 95) (L1 := [some (.ref 211), some (.int x1), some (.int x2), some (.int x3), d4]) (st1 := [.int 0, .ref 218, .int ((Z.1 220 (mjIx x1)) + 1), .int 0, .ref 211]) (M1 := mjTo Z) rfl ?_
    refine pG_ial rfl (by rfl) (by decide) ?_
    by_cases hc124 : mjCmp .ne ((Z.1 220 (mjIx x1)) + 1) (Z.1 218 0) = true
    · rw [if_pos hc124] at h
      refine pG_cmt (t := 103) rfl rfl hc124 ?_
      refine pG_many 1 (pc1 := 105) (L1 := [some (.ref 211), some (.int x1), some (.int x2), some (.int x3), d4]) (st1 := [.int 20, .int 0, .ref 211]) (M1 := mjTo Z) rfl ?_
      exact f228_runsLine_j105_ok x1 x2 x3 0 20 d4 Z v9 Z9 h
    · rw [if_neg hc124] at h
      refine pG_cmf (t := 103) rfl rfl hc124 ?_
      refine pG_many 2 (pc1 := 105) (L1 := [some (.ref 211), some (.int x1), some (.int x2), some (.int x3), d4]) (st1 := [.int 0, .int 0, .ref 211]) (M1 := mjTo Z) rfl ?_
      exact f228_runsLine_j105_ok x1 x2 x3 0 0 d4 Z v9 Z9 h
  · rw [if_neg hc122] at h
    refine pG_iff (t := 80) rfl rfl hc122 ?_
    simp only [Option.some.injEq, Prod.mk.injEq] at h
    obtain ⟨-, rfl⟩ := h
    exact pG_ret (r := none) rfl ⟨rfl, rfl⟩
def f228_runsLine_j47 (x1 : Int32) (Z : mjZt) : Option (Unit × mjZt) :=
  mjBd (f213_number 20 999 Z) fun v116 Z117 =>
  mjBp (f209_isSignHere 45 Z117) fun v119 =>
  if mjCmp .eq v119 0 = true then
    f228_runsLine_j72 x1 v116 v119 Z117
  else
    mjBd (f205_goOn  Z117) fun _ Z139 =>
    f228_runsLine_j72 x1 v116 v119 Z139
theorem f228_runsLine_j47_ok (x1 : Int32) (d2 d3 d4 : Option Value) (Z : mjZt) (v9 : Unit) (Z9 : mjZt) (h : f228_runsLine_j47 x1 Z = some (v9, Z9)) : pG 228 47 [some (.ref 211), some (.int x1), d2, d3, d4] [] (mjTo Z) (fun r M1 => r = none ∧ M1 = mjTo Z9) := by
  unfold f228_runsLine_j47 at h
  refine pG_many 3 (pc1 := 53) (L1 := [some (.ref 211), some (.int x1), d2, d3, d4]) (st1 := [.int 999, .int 20, .ref 211]) (M1 := mjTo Z) rfl ?_
  cases hq115 : f213_number 20 999 Z with
  | none => rw [hq115] at h; cases h
  | some w =>
    obtain ⟨v116, Z117⟩ := w
    rw [hq115, mjBd_some] at h
    refine pG_callV (k2 := 213) (As := [.ref 211, .int 20, .int 999]) (rest := []) rfl rfl rfl rfl rfl (by rfl) (by decide) (f213_number_ok hq115) ?_
    rintro r9 M9 ⟨rfl, rfl⟩
    show pG 228 56 [some (.ref 211), some (.int x1), d2, d3, d4] [.int v116] (mjTo Z117) _
    refine pG_many 3 (pc1 := 60) (L1 := [some (.ref 211), some (.int x1), some (.int v116), d3, d4]) (st1 := [.int 45, .ref 211]) (M1 := mjTo Z117) rfl ?_
    cases hq118 : f209_isSignHere 45 Z117 with
    | none => rw [hq118] at h; cases h
    | some v119 =>
      rw [hq118, mjBp_some] at h
      refine pG_callV (k2 := 209) (As := [.ref 211, .int 45]) (rest := []) rfl rfl rfl rfl rfl (by rfl) (by decide) (f209_isSignHere_ok hq118) ?_
      rintro r9 M9 ⟨rfl, rfl⟩
      show pG 228 63 [some (.ref 211), some (.int x1), some (.int v116), d3, d4] [.int v119] (mjTo Z117) _
      refine pG_many 2 (pc1 := 65) (L1 := [some (.ref 211), some (.int x1), some (.int v116), some (.int v119), d4]) (st1 := [.int v119]) (M1 := mjTo Z117) rfl ?_
      by_cases hc121 : mjCmp .eq v119 0 = true
      · rw [if_pos hc121] at h
        refine pG_ift (t := 72) rfl rfl hc121 ?_
        exact f228_runsLine_j72_ok x1 v116 v119 d4 Z117 v9 Z9 h
      · rw [if_neg hc121] at h
        refine pG_iff (t := 72) rfl rfl hc121 ?_
        refine pG_many 1 (pc1 := 69) (L1 := [some (.ref 211), some (.int x1), some (.int v116), some (.int v119), d4]) (st1 := [.ref 211]) (M1 := mjTo Z117) rfl ?_
        cases hq137 : f205_goOn  Z117 with
        | none => rw [hq137] at h; cases h
        | some w =>
          obtain ⟨v138, Z139⟩ := w
          rw [hq137, mjBd_some] at h
          refine pG_callV (k2 := 205) (As := [.ref 211]) (rest := []) rfl rfl rfl rfl rfl (by rfl) (by decide) (f205_goOn_ok hq137) ?_
          rintro r9 M9 ⟨rfl, rfl⟩
          show pG 228 72 [some (.ref 211), some (.int x1), some (.int v116), some (.int v119), d4] [] (mjTo Z139) _
          exact f228_runsLine_j72_ok x1 v116 v119 d4 Z139 v9 Z9 h
def f228_runsLine_j36 (x1 : Int32) (Z : mjZt) : Option (Unit × mjZt) :=
  mjBp (f207_isGood  Z) fun v112 =>
  if mjCmp .eq v112 0 = true then
    f228_runsLine_j47 x1 Z
  else
    mjBd (f205_goOn  Z) fun _ Z142 =>
    f228_runsLine_j47 x1 Z142
theorem f228_runsLine_j36_ok (x1 : Int32) (d2 d3 d4 : Option Value) (Z : mjZt) (v9 : Unit) (Z9 : mjZt) (h : f228_runsLine_j36 x1 Z = some (v9, Z9)) : pG 228 36 [some (.ref 211), some (.int x1), d2, d3, d4] [] (mjTo Z) (fun r M1 => r = none ∧ M1 = mjTo Z9) := by
  unfold f228_runsLine_j36 at h
  refine pG_many 1 (pc1 := 37) (L1 := [some (.ref 211), some (.int x1), d2, d3, d4]) (st1 := [.ref 211]) (M1 := mjTo Z) rfl ?_
  cases hq111 : f207_isGood  Z with
  | none => rw [hq111] at h; cases h
  | some v112 =>
    rw [hq111, mjBp_some] at h
    refine pG_callV (k2 := 207) (As := [.ref 211]) (rest := []) rfl rfl rfl rfl rfl (by rfl) (by decide) (f207_isGood_ok hq111) ?_
    rintro r9 M9 ⟨rfl, rfl⟩
    show pG 228 40 [some (.ref 211), some (.int x1), d2, d3, d4] [.int v112] (mjTo Z) _
    by_cases hc114 : mjCmp .eq v112 0 = true
    · rw [if_pos hc114] at h
      refine pG_ift (t := 47) rfl rfl hc114 ?_
      exact f228_runsLine_j47_ok x1 d2 d3 d4 Z v9 Z9 h
    · rw [if_neg hc114] at h
      refine pG_iff (t := 47) rfl rfl hc114 ?_
      refine pG_many 1 (pc1 := 44) (L1 := [some (.ref 211), some (.int x1), d2, d3, d4]) (st1 := [.ref 211]) (M1 := mjTo Z) rfl ?_
      cases hq140 : f205_goOn  Z with
      | none => rw [hq140] at h; cases h
      | some w =>
        obtain ⟨v141, Z142⟩ := w
        rw [hq140, mjBd_some] at h
        refine pG_callV (k2 := 205) (As := [.ref 211]) (rest := []) rfl rfl rfl rfl rfl (by rfl) (by decide) (f205_goOn_ok hq140) ?_
        rintro r9 M9 ⟨rfl, rfl⟩
        show pG 228 47 [some (.ref 211), some (.int x1), d2, d3, d4] [] (mjTo Z142) _
        exact f228_runsLine_j47_ok x1 d2 d3 d4 Z142 v9 Z9 h
def f228_runsLine  (Z : mjZt) : Option (Unit × mjZt) :=
  mjBd (f205_goOn  Z) fun _ Z103 =>
  mjBd (f226_teamHere  Z103) fun v105 Z106 =>
  mjBp (f207_isGood  Z106) fun v108 =>
  if mjCmp .eq v108 0 = true then
    f228_runsLine_j36 v105 Z106
  else
    if mjIn v105 6 = true then
    if mjCmp .ne (Z106.1 220 (mjIx v105)) (Z106.1 218 0) = true then
      f228_runsLine_j36 v105 Z106
    else
      mjBd (f206_wrong 5 Z106) fun _ Z147 =>
      f228_runsLine_j36 v105 Z147
    else none
theorem f228_runsLine_ok  {Z : mjZt} {v9 : Unit} {Z9 : mjZt} (h : f228_runsLine  Z = some (v9, Z9)) : pG 228 0 (mjEnt [.ref 211] (mjML 228)) [] (mjTo Z) (fun r M1 => r = none ∧ M1 = mjTo Z9) := by
  unfold f228_runsLine at h
  show pG 228 0 [some (.ref 211), none, none, none, none] [] (mjTo Z) _
  refine pG_many 1 (pc1 := 1) (L1 := [some (.ref 211), none, none, none, none]) (st1 := [.ref 211]) (M1 := mjTo Z) rfl ?_
  cases hq101 : f205_goOn  Z with
  | none => rw [hq101] at h; cases h
  | some w =>
    obtain ⟨v102, Z103⟩ := w
    rw [hq101, mjBd_some] at h
    refine pG_callV (k2 := 205) (As := [.ref 211]) (rest := []) rfl rfl rfl rfl rfl (by rfl) (by decide) (f205_goOn_ok hq101) ?_
    rintro r9 M9 ⟨rfl, rfl⟩
    show pG 228 4 [some (.ref 211), none, none, none, none] [] (mjTo Z103) _
    refine pG_many 1 (pc1 := 5) (L1 := [some (.ref 211), none, none, none, none]) (st1 := [.ref 211]) (M1 := mjTo Z103) rfl ?_
    cases hq104 : f226_teamHere  Z103 with
    | none => rw [hq104] at h; cases h
    | some w =>
      obtain ⟨v105, Z106⟩ := w
      rw [hq104, mjBd_some] at h
      refine pG_callV (k2 := 226) (As := [.ref 211]) (rest := []) rfl rfl rfl rfl rfl (by rfl) (by decide) (f226_teamHere_ok hq104) ?_
      rintro r9 M9 ⟨rfl, rfl⟩
      show pG 228 8 [some (.ref 211), none, none, none, none] [.int v105] (mjTo Z106) _
      refine pG_many 2 (pc1 := 10) (L1 := [some (.ref 211), some (.int v105), none, none, none]) (st1 := [.ref 211]) (M1 := mjTo Z106) rfl ?_
      cases hq107 : f207_isGood  Z106 with
      | none => rw [hq107] at h; cases h
      | some v108 =>
        rw [hq107, mjBp_some] at h
        refine pG_callV (k2 := 207) (As := [.ref 211]) (rest := []) rfl rfl rfl rfl rfl (by rfl) (by decide) (f207_isGood_ok hq107) ?_
        rintro r9 M9 ⟨rfl, rfl⟩
        show pG 228 13 [some (.ref 211), some (.int v105), none, none, none] [.int v108] (mjTo Z106) _
        by_cases hc110 : mjCmp .eq v108 0 = true
        · rw [if_pos hc110] at h
          refine pG_ift (t := 36) rfl rfl hc110 ?_
          exact f228_runsLine_j36_ok v105 none none none Z106 v9 Z9 h
        · rw [if_neg hc110] at h
          refine pG_iff (t := 36) rfl rfl hc110 ?_
          refine pG_many 1 (pc1 := 17) (L1 := [some (.ref 211), some (.int v105), none, none, none]) (st1 := [.ref 211]) (M1 := mjTo Z106) rfl ?_
          refine pG_getR (ci := 12) (f := 30) (b := 220) rfl rfl rfl (by rfl) rfl ?_
          refine pG_many 1 (pc1 := 21) (L1 := [some (.ref 211), some (.int v105), none, none, none]) (st1 := [.int v105, .ref 220]) (M1 := mjTo Z106) rfl ?_
          have hk143 : mjIn v105 6 = true := by
            by_cases q9 : mjIn v105 6 = true
            · exact q9
            · rw [if_neg q9] at h; cases h
          rw [if_pos hk143] at h
          refine pG_ial rfl (by rfl) hk143 ?_
          refine pG_many 1 (pc1 := 23) (L1 := [some (.ref 211), some (.int v105), none, none, none]) (st1 := [.ref 211, .int (Z106.1 220 (mjIx v105))]) (M1 := mjTo Z106) rfl ?_
          refine pG_getR (ci := 12) (f := 28) (b := 218) rfl rfl rfl (by rfl) rfl ?_
          refine pG_many 1 (pc1 := 27) (L1 := [some (.ref 211), some (.int v105), none, none, none]) (st1 := [.int 0, .ref 218, .int (Z106.1 220 (mjIx v105))]) (M1 := mjTo Z106) rfl ?_
          refine pG_ial rfl (by rfl) (by decide) ?_
          by_cases hc144 : mjCmp .ne (Z106.1 220 (mjIx v105)) (Z106.1 218 0) = true
          · rw [if_pos hc144] at h
            refine pG_cmt (t := 36) rfl rfl hc144 ?_
            exact f228_runsLine_j36_ok v105 none none none Z106 v9 Z9 h
          · rw [if_neg hc144] at h
            refine pG_cmf (t := 36) rfl rfl hc144 ?_
            refine pG_many 2 (pc1 := 33) (L1 := [some (.ref 211), some (.int v105), none, none, none]) (st1 := [.int 5, .ref 211]) (M1 := mjTo Z106) rfl ?_
            cases hq145 : f206_wrong 5 Z106 with
            | none => rw [hq145] at h; cases h
            | some w =>
              obtain ⟨v146, Z147⟩ := w
              rw [hq145, mjBd_some] at h
              refine pG_callV (k2 := 206) (As := [.ref 211, .int 5]) (rest := []) rfl rfl rfl rfl rfl (by rfl) (by decide) (f206_wrong_ok hq145) ?_
              rintro r9 M9 ⟨rfl, rfl⟩
              show pG 228 36 [some (.ref 211), some (.int v105), none, none, none] [] (mjTo Z147) _
              exact f228_runsLine_j36_ok v105 none none none Z147 v9 Z9 h
def f229_kindHere_j24 (s0 : Int32) (Z : mjZt) : Option (Int32 × mjZt) :=
  mjBp (f207_isGood  Z) fun v103 =>
  if mjCmp .eq v103 0 = true then
    if mjCmp .eq v103 0 = true then
      some (s0, Z)
    else
      mjBd (f205_goOn  Z) fun _ Z112 =>
      some (s0, Z112)
  else
    if mjCmp .ne s0 ((-1)) = true then
      if mjCmp .eq v103 0 = true then
        some (s0, Z)
      else
        mjBd (f205_goOn  Z) fun _ Z120 =>
        some (s0, Z120)
    else
      mjBd (f206_wrong 2 Z) fun _ Z123 =>
      mjBp (f207_isGood  Z123) fun v125 =>
      if mjCmp .eq v125 0 = true then
        some (s0, Z123)
      else
        mjBd (f205_goOn  Z123) fun _ Z130 =>
        some (s0, Z130)
theorem f229_kindHere_j24_ok (s0 : Int32) (d1 d2 : Option Value) (Z : mjZt) (v9 : Int32) (Z9 : mjZt) (h : f229_kindHere_j24 s0 Z = some (v9, Z9)) : pG 229 24 [some (.ref 211), d1, d2] [.int s0] (mjTo Z) (fun r M1 => r = some (.int v9) ∧ M1 = mjTo Z9) := by
  unfold f229_kindHere_j24 at h
  refine pG_many 2 (pc1 := 26) (L1 := [some (.ref 211), (mjK1 d1), some (.int s0)]) (st1 := [.ref 211]) (M1 := mjTo Z) rfl ?_
  cases hq102 : f207_isGood  Z with
  | none => rw [hq102] at h; cases h
  | some v103 =>
    rw [hq102, mjBp_some] at h
    refine pG_callV (k2 := 207) (As := [.ref 211]) (rest := []) rfl rfl rfl rfl rfl (by rfl) (by decide) (f207_isGood_ok hq102) ?_
    rintro r9 M9 ⟨rfl, rfl⟩
    show pG 229 29 [some (.ref 211), (mjK1 d1), some (.int s0)] [.int v103] (mjTo Z) _
    by_cases hc105 : mjCmp .eq v103 0 = true
    · rw [if_pos hc105] at h
      refine pG_ift (t := 42) rfl rfl hc105 ?_
      refine pG_many 1 (pc1 := 43) (L1 := [some (.ref 211), (mjK1 d1), some (.int s0)]) (st1 := [.ref 211]) (M1 := mjTo Z) rfl ?_
      refine pG_callV (k2 := 207) (As := [.ref 211]) (rest := []) rfl rfl rfl rfl rfl (by rfl) (by decide) (f207_isGood_ok hq102) ?_
      rintro r9 M9 ⟨rfl, rfl⟩
      show pG 229 46 [some (.ref 211), (mjK1 d1), some (.int s0)] [.int v103] (mjTo Z) _
      by_cases hc109 : mjCmp .eq v103 0 = true
      · rw [if_pos hc109] at h
        refine pG_ift (t := 53) rfl rfl hc109 ?_
        refine pG_many 1 (pc1 := 54) (L1 := [some (.ref 211), (mjK1 d1), some (.int s0)]) (st1 := [.int s0]) (M1 := mjTo Z) rfl ?_
        simp only [Option.some.injEq, Prod.mk.injEq] at h
        obtain ⟨rfl, rfl⟩ := h
        exact pG_ret (r := some (.int s0)) rfl ⟨rfl, rfl⟩
      · rw [if_neg hc109] at h
        refine pG_iff (t := 53) rfl rfl hc109 ?_
        refine pG_many 1 (pc1 := 50) (L1 := [some (.ref 211), (mjK1 d1), some (.int s0)]) (st1 := [.ref 211]) (M1 := mjTo Z) rfl ?_
        cases hq110 : f205_goOn  Z with
        | none => rw [hq110] at h; cases h
        | some w =>
          obtain ⟨v111, Z112⟩ := w
          rw [hq110, mjBd_some] at h
          refine pG_callV (k2 := 205) (As := [.ref 211]) (rest := []) rfl rfl rfl rfl rfl (by rfl) (by decide) (f205_goOn_ok hq110) ?_
          rintro r9 M9 ⟨rfl, rfl⟩
          show pG 229 53 [some (.ref 211), (mjK1 d1), some (.int s0)] [] (mjTo Z112) _
          refine pG_many 1 (pc1 := 54) (L1 := [some (.ref 211), (mjK1 d1), some (.int s0)]) (st1 := [.int s0]) (M1 := mjTo Z112) rfl ?_
          simp only [Option.some.injEq, Prod.mk.injEq] at h
          obtain ⟨rfl, rfl⟩ := h
          exact pG_ret (r := some (.int s0)) rfl ⟨rfl, rfl⟩
    · rw [if_neg hc105] at h
      refine pG_iff (t := 42) rfl rfl hc105 ?_
      refine pG_many 2 (pc1 := 34) (L1 := [some (.ref 211), (mjK1 d1), some (.int s0)]) (st1 := [.int ((-1)), .int s0]) (M1 := mjTo Z) rfl ?_
      by_cases hc113 : mjCmp .ne s0 ((-1)) = true
      · rw [if_pos hc113] at h
        refine pG_cmt (t := 42) rfl rfl hc113 ?_
        refine pG_many 1 (pc1 := 43) (L1 := [some (.ref 211), (mjK1 d1), some (.int s0)]) (st1 := [.ref 211]) (M1 := mjTo Z) rfl ?_
        refine pG_callV (k2 := 207) (As := [.ref 211]) (rest := []) rfl rfl rfl rfl rfl (by rfl) (by decide) (f207_isGood_ok hq102) ?_
        rintro r9 M9 ⟨rfl, rfl⟩
        show pG 229 46 [some (.ref 211), (mjK1 d1), some (.int s0)] [.int v103] (mjTo Z) _
        by_cases hc117 : mjCmp .eq v103 0 = true
        · rw [if_pos hc117] at h
          refine pG_ift (t := 53) rfl rfl hc117 ?_
          refine pG_many 1 (pc1 := 54) (L1 := [some (.ref 211), (mjK1 d1), some (.int s0)]) (st1 := [.int s0]) (M1 := mjTo Z) rfl ?_
          simp only [Option.some.injEq, Prod.mk.injEq] at h
          obtain ⟨rfl, rfl⟩ := h
          exact pG_ret (r := some (.int s0)) rfl ⟨rfl, rfl⟩
        · rw [if_neg hc117] at h
          refine pG_iff (t := 53) rfl rfl hc117 ?_
          refine pG_many 1 (pc1 := 50) (L1 := [some (.ref 211), (mjK1 d1), some (.int s0)]) (st1 := [.ref 211]) (M1 := mjTo Z) rfl ?_
          cases hq118 : f205_goOn  Z with
          | none => rw [hq118] at h; cases h
          | some w =>
            obtain ⟨v119, Z120⟩ := w
            rw [hq118, mjBd_some] at h
            refine pG_callV (k2 := 205) (As := [.ref 211]) (rest := []) rfl rfl rfl rfl rfl (by rfl) (by decide) (f205_goOn_ok hq118) ?_
            rintro r9 M9 ⟨rfl, rfl⟩
            show pG 229 53 [some (.ref 211), (mjK1 d1), some (.int s0)] [] (mjTo Z120) _
            refine pG_many 1 (pc1 := 54) (L1 := [some (.ref 211), (mjK1 d1), some (.int s0)]) (st1 := [.int s0]) (M1 := mjTo Z120) rfl ?_
            simp only [Option.some.injEq, Prod.mk.injEq] at h
            obtain ⟨rfl, rfl⟩ := h
            exact pG_ret (r := some (.int s0)) rfl ⟨rfl, rfl⟩
      · rw [if_neg hc113] at h
        refine pG_cmf (t := 42) rfl rfl hc113 ?_
        refine pG_many 2 (pc1 := 39) (L1 := [some (.ref 211), (mjK1 d1), some (.int s0)]) (st1 := [.int 2, .ref 211]) (M1 := mjTo Z) rfl ?_
        cases hq121 : f206_wrong 2 Z with
        | none => rw [hq121] at h; cases h
        | some w =>
          obtain ⟨v122, Z123⟩ := w
          rw [hq121, mjBd_some] at h
          refine pG_callV (k2 := 206) (As := [.ref 211, .int 2]) (rest := []) rfl rfl rfl rfl rfl (by rfl) (by decide) (f206_wrong_ok hq121) ?_
          rintro r9 M9 ⟨rfl, rfl⟩
          show pG 229 42 [some (.ref 211), (mjK1 d1), some (.int s0)] [] (mjTo Z123) _
          refine pG_many 1 (pc1 := 43) (L1 := [some (.ref 211), (mjK1 d1), some (.int s0)]) (st1 := [.ref 211]) (M1 := mjTo Z123) rfl ?_
          cases hq124 : f207_isGood  Z123 with
          | none => rw [hq124] at h; cases h
          | some v125 =>
            rw [hq124, mjBp_some] at h
            refine pG_callV (k2 := 207) (As := [.ref 211]) (rest := []) rfl rfl rfl rfl rfl (by rfl) (by decide) (f207_isGood_ok hq124) ?_
            rintro r9 M9 ⟨rfl, rfl⟩
            show pG 229 46 [some (.ref 211), (mjK1 d1), some (.int s0)] [.int v125] (mjTo Z123) _
            by_cases hc127 : mjCmp .eq v125 0 = true
            · rw [if_pos hc127] at h
              refine pG_ift (t := 53) rfl rfl hc127 ?_
              refine pG_many 1 (pc1 := 54) (L1 := [some (.ref 211), (mjK1 d1), some (.int s0)]) (st1 := [.int s0]) (M1 := mjTo Z123) rfl ?_
              simp only [Option.some.injEq, Prod.mk.injEq] at h
              obtain ⟨rfl, rfl⟩ := h
              exact pG_ret (r := some (.int s0)) rfl ⟨rfl, rfl⟩
            · rw [if_neg hc127] at h
              refine pG_iff (t := 53) rfl rfl hc127 ?_
              refine pG_many 1 (pc1 := 50) (L1 := [some (.ref 211), (mjK1 d1), some (.int s0)]) (st1 := [.ref 211]) (M1 := mjTo Z123) rfl ?_
              cases hq128 : f205_goOn  Z123 with
              | none => rw [hq128] at h; cases h
              | some w =>
                obtain ⟨v129, Z130⟩ := w
                rw [hq128, mjBd_some] at h
                refine pG_callV (k2 := 205) (As := [.ref 211]) (rest := []) rfl rfl rfl rfl rfl (by rfl) (by decide) (f205_goOn_ok hq128) ?_
                rintro r9 M9 ⟨rfl, rfl⟩
                show pG 229 53 [some (.ref 211), (mjK1 d1), some (.int s0)] [] (mjTo Z130) _
                refine pG_many 1 (pc1 := 54) (L1 := [some (.ref 211), (mjK1 d1), some (.int s0)]) (st1 := [.int s0]) (M1 := mjTo Z130) rfl ?_
                simp only [Option.some.injEq, Prod.mk.injEq] at h
                obtain ⟨rfl, rfl⟩ := h
                exact pG_ret (r := some (.int s0)) rfl ⟨rfl, rfl⟩
def f229_kindHere (p0 : Int32) (Z : mjZt) : Option (Int32 × mjZt) :=
  if mjCmp .ne (Z.1 211 7) 1 = true then
    f229_kindHere_j24 ((-1)) Z
  else
    mjBp (f210_among 213 p0 (Z.2.1 211 13) Z) fun v132 =>
    f229_kindHere_j24 v132 Z
theorem f229_kindHere_ok {p0 : Int32} {Z : mjZt} {v9 : Int32} {Z9 : mjZt} (h : f229_kindHere p0 Z = some (v9, Z9)) : pG 229 0 (mjEnt [.ref 211, .int p0] (mjML 229)) [] (mjTo Z) (fun r M1 => r = some (.int v9) ∧ M1 = mjTo Z9) := by
  unfold f229_kindHere at h
  show pG 229 0 [some (.ref 211), some (.int p0), none] [] (mjTo Z) _
  refine pG_many 1 (pc1 := 1) (L1 := [some (.ref 211), some (.int p0), none]) (st1 := [.ref 211]) (M1 := mjTo Z) rfl ?_
  refine pG_getI (ci := 12) (f := 7) rfl rfl (Or.inl rfl) (by rfl) ?_
  refine pG_many 1 (pc1 := 5) (L1 := [some (.ref 211), some (.int p0), none]) (st1 := [.int 1, .int (Z.1 211 7)]) (M1 := mjTo Z) rfl ?_
  by_cases hc101 : mjCmp .ne (Z.1 211 7) 1 = true
  · rw [if_pos hc101] at h
    refine pG_cmt (t := 23) rfl rfl hc101 ?_
    refine pG_many 1 (pc1 := 24) (L1 := [some (.ref 211), some (.int p0), none]) (st1 := [.int ((-1))]) (M1 := mjTo Z) rfl ?_
    exact f229_kindHere_j24_ok ((-1)) (some (.int p0)) none Z v9 Z9 h
  · rw [if_neg hc101] at h
    refine pG_cmf (t := 23) rfl rfl hc101 ?_
    refine pG_many 1 (pc1 := 9) (L1 := [some (.ref 211), some (.int p0), none]) (st1 := [.ref 211]) (M1 := mjTo Z) rfl ?_
    refine pG_getR (ci := 12) (f := 2) (b := 213) rfl rfl rfl (by rfl) rfl ?_
    refine pG_many 2 (pc1 := 14) (L1 := [some (.ref 211), some (.int p0), none]) (st1 := [.ref 211, .int p0, .ref 213]) (M1 := mjTo Z) rfl ?_
    refine pG_getL (ci := 12) (f := 13) rfl rfl rfl (by rfl) ?_
    cases hq131 : f210_among 213 p0 (Z.2.1 211 13) Z with
    | none => rw [hq131] at h; cases h
    | some v132 =>
      rw [hq131, mjBp_some] at h
      refine pG_call (k2 := 210) (As := [.ref 213, .int p0, .long (Z.2.1 211 13)]) (rest := []) rfl (by decide) (f210_among_ok hq131) ?_
      rintro r9 M9 ⟨rfl, rfl⟩
      show pG 229 20 [some (.ref 211), some (.int p0), none] [.int v132] (mjTo Z) _
      refine pG_many 1 (pc1 := 24) (L1 := [some (.ref 211), some (.int p0), none]) (st1 := [.int v132]) (M1 := mjTo Z) rfl ?_
      exact f229_kindHere_j24_ok v132 (some (.int p0)) none Z v9 Z9 h
def f230_actLine_j94 (x1 : Int32) (x2 : Int32) (x3 : Int32) (Z : mjZt) : Option (Unit × mjZt) :=
  mjBd (f213_number 0 9999 Z) fun v121 Z122 =>
  mjBd (f213_number 0 99 Z122) fun v124 Z125 =>
  if mjCmp .le (Z125.1 211 9) 0 = true then
    if mjIn (Z125.1 211 22) 12 = true then
    mjLet (zSi Z125 222 (mjIx (Z125.1 211 22)) x1) fun Z128 =>
    if mjIn (Z128.1 211 22) 12 = true then
    mjLet (zSi Z128 223 (mjIx (Z128.1 211 22)) x2) fun Z130 =>
    if mjIn (Z130.1 211 22) 12 = true then
    mjLet (zSi Z130 224 (mjIx (Z130.1 211 22)) x3) fun Z132 =>
    if mjIn (72 + (3 * (Z132.1 211 22))) 108 = true then
    mjLet (zSi Z132 221 (mjIx (72 + (3 * (Z132.1 211 22)))) v121) fun Z134 =>
    if mjIn ((72 + (3 * (Z134.1 211 22))) + 1) 108 = true then
    mjLet (zSi Z134 221 (mjIx ((72 + (3 * (Z134.1 211 22))) + 1)) v124) fun Z136 =>
    if mjIn ((72 + (3 * (Z136.1 211 22))) + 2) 108 = true then
    mjLet (zSi Z136 221 (mjIx ((72 + (3 * (Z136.1 211 22))) + 2)) 0) fun Z138 =>
    mjLet (zSi Z138 211 22 ((Z138.1 211 22) + 1)) fun Z139 =>
    some ((), Z139)
    else none
    else none
    else none
    else none
    else none
    else none
  else
    some ((), Z125)
theorem f230_actLine_j94_ok (x1 : Int32) (x2 : Int32) (x3 : Int32) (d4 d5 : Option Value) (Z : mjZt) (v9 : Unit) (Z9 : mjZt) (h : f230_actLine_j94 x1 x2 x3 Z = some (v9, Z9)) : pG 230 94 [some (.ref 211), some (.int x1), some (.int x2), some (.int x3), d4, d5] [] (mjTo Z) (fun r M1 => r = none ∧ M1 = mjTo Z9) := by
  unfold f230_actLine_j94 at h
  refine pG_many 3 (pc1 := 99) (L1 := [some (.ref 211), some (.int x1), some (.int x2), some (.int x3), d4, d5]) (st1 := [.int 9999, .int 0, .ref 211]) (M1 := mjTo Z) rfl ?_
  cases hq120 : f213_number 0 9999 Z with
  | none => rw [hq120] at h; cases h
  | some w =>
    obtain ⟨v121, Z122⟩ := w
    rw [hq120, mjBd_some] at h
    refine pG_callV (k2 := 213) (As := [.ref 211, .int 0, .int 9999]) (rest := []) rfl rfl rfl rfl rfl (by rfl) (by decide) (f213_number_ok hq120) ?_
    rintro r9 M9 ⟨rfl, rfl⟩
    show pG 230 102 [some (.ref 211), some (.int x1), some (.int x2), some (.int x3), d4, d5] [.int v121] (mjTo Z122) _
    refine pG_many 4 (pc1 := 108) (L1 := [some (.ref 211), some (.int x1), some (.int x2), some (.int x3), some (.int v121), d5]) (st1 := [.int 99, .int 0, .ref 211]) (M1 := mjTo Z122) rfl ?_
    cases hq123 : f213_number 0 99 Z122 with
    | none => rw [hq123] at h; cases h
    | some w =>
      obtain ⟨v124, Z125⟩ := w
      rw [hq123, mjBd_some] at h
      refine pG_callV (k2 := 213) (As := [.ref 211, .int 0, .int 99]) (rest := []) rfl rfl rfl rfl rfl (by rfl) (by decide) (f213_number_ok hq123) ?_
      rintro r9 M9 ⟨rfl, rfl⟩
      show pG 230 111 [some (.ref 211), some (.int x1), some (.int x2), some (.int x3), some (.int v121), d5] [.int v124] (mjTo Z125) _
      refine pG_many 2 (pc1 := 114) (L1 := [some (.ref 211), some (.int x1), some (.int x2), some (.int x3), some (.int v121), some (.int v124)]) (st1 := [.ref 211]) (M1 := mjTo Z125) rfl ?_
      refine pG_getI (ci := 12) (f := 9) rfl rfl (Or.inl rfl) (by rfl) ?_
      by_cases hc126 : mjCmp .le (Z125.1 211 9) 0 = true
      · rw [if_pos hc126] at h
        refine pG_ift (t := 121) rfl rfl hc126 ?_
        refine pG_many 1 (pc1 := 122) (L1 := [some (.ref 211), some (.int x1), some (.int x2), some (.int x3), some (.int v121), some (.int v124)]) (st1 := [.ref 211]) (M1 := mjTo Z125) rfl ?_
        refine pG_getR (ci := 12) (f := 32) (b := 222) rfl rfl rfl (by rfl) rfl ?_
        refine pG_many 1 (pc1 := 126) (L1 := [some (.ref 211), some (.int x1), some (.int x2), some (.int x3), some (.int v121), some (.int v124)]) (st1 := [.ref 211, .ref 222]) (M1 := mjTo Z125) rfl ?_
        refine pG_getI (ci := 12) (f := 22) rfl rfl (Or.inl rfl) (by rfl) ?_
        refine pG_many 1 (pc1 := 130) (L1 := [some (.ref 211), some (.int x1), some (.int x2), some (.int x3), some (.int v121), some (.int v124)]) (st1 := [.int x1, .int (Z125.1 211 22), .ref 222]) (M1 := mjTo Z125) rfl ?_
        have hk127 : mjIn (Z125.1 211 22) 12 = true := by
          by_cases q9 : mjIn (Z125.1 211 22) 12 = true
          · exact q9
          · rw [if_neg q9] at h; cases h
        rw [if_pos hk127] at h
        refine pG_ias rfl (by rfl) hk127 (?_ : pG 230 131 [some (.ref 211), some (.int x1), some (.int x2), some (.int x3), some (.int v121), some (.int v124)] [] (mjTo (zSi Z125 222 (mjIx (Z125.1 211 22)) x1)) _)
        rw [mjLet] at h
        generalize zSi Z125 222 (mjIx (Z125.1 211 22)) x1 = Z128 at h ⊢
        refine pG_many 1 (pc1 := 132) (L1 := [some (.ref 211), some (.int x1), some (.int x2), some (.int x3), some (.int v121), some (.int v124)]) (st1 := [.ref 211]) (M1 := mjTo Z128) rfl ?_
        refine pG_getR (ci := 12) (f := 33) (b := 223) rfl rfl rfl (by rfl) rfl ?_
        refine pG_many 1 (pc1 := 136) (L1 := [some (.ref 211), some (.int x1), some (.int x2), some (.int x3), some (.int v121), some (.int v124)]) (st1 := [.ref 211, .ref 223]) (M1 := mjTo Z128) rfl ?_
        refine pG_getI (ci := 12) (f := 22) rfl rfl (Or.inl rfl) (by rfl) ?_
        refine pG_many 1 (pc1 := 140) (L1 := [some (.ref 211), some (.int x1), some (.int x2), some (.int x3), some (.int v121), some (.int v124)]) (st1 := [.int x2, .int (Z128.1 211 22), .ref 223]) (M1 := mjTo Z128) rfl ?_
        have hk129 : mjIn (Z128.1 211 22) 12 = true := by
          by_cases q9 : mjIn (Z128.1 211 22) 12 = true
          · exact q9
          · rw [if_neg q9] at h; cases h
        rw [if_pos hk129] at h
        refine pG_ias rfl (by rfl) hk129 (?_ : pG 230 141 [some (.ref 211), some (.int x1), some (.int x2), some (.int x3), some (.int v121), some (.int v124)] [] (mjTo (zSi Z128 223 (mjIx (Z128.1 211 22)) x2)) _)
        rw [mjLet] at h
        generalize zSi Z128 223 (mjIx (Z128.1 211 22)) x2 = Z130 at h ⊢
        refine pG_many 1 (pc1 := 142) (L1 := [some (.ref 211), some (.int x1), some (.int x2), some (.int x3), some (.int v121), some (.int v124)]) (st1 := [.ref 211]) (M1 := mjTo Z130) rfl ?_
        refine pG_getR (ci := 12) (f := 34) (b := 224) rfl rfl rfl (by rfl) rfl ?_
        refine pG_many 1 (pc1 := 146) (L1 := [some (.ref 211), some (.int x1), some (.int x2), some (.int x3), some (.int v121), some (.int v124)]) (st1 := [.ref 211, .ref 224]) (M1 := mjTo Z130) rfl ?_
        refine pG_getI (ci := 12) (f := 22) rfl rfl (Or.inl rfl) (by rfl) ?_
        refine pG_many 1 (pc1 := 150) (L1 := [some (.ref 211), some (.int x1), some (.int x2), some (.int x3), some (.int v121), some (.int v124)]) (st1 := [.int x3, .int (Z130.1 211 22), .ref 224]) (M1 := mjTo Z130) rfl ?_
        have hk131 : mjIn (Z130.1 211 22) 12 = true := by
          by_cases q9 : mjIn (Z130.1 211 22) 12 = true
          · exact q9
          · rw [if_neg q9] at h; cases h
        rw [if_pos hk131] at h
        refine pG_ias rfl (by rfl) hk131 (?_ : pG 230 151 [some (.ref 211), some (.int x1), some (.int x2), some (.int x3), some (.int v121), some (.int v124)] [] (mjTo (zSi Z130 224 (mjIx (Z130.1 211 22)) x3)) _)
        rw [mjLet] at h
        generalize zSi Z130 224 (mjIx (Z130.1 211 22)) x3 = Z132 at h ⊢
        refine pG_many 1 (pc1 := 152) (L1 := [some (.ref 211), some (.int x1), some (.int x2), some (.int x3), some (.int v121), some (.int v124)]) (st1 := [.ref 211]) (M1 := mjTo Z132) rfl ?_
        refine pG_getR (ci := 12) (f := 31) (b := 221) rfl rfl rfl (by rfl) rfl ?_
        refine pG_many 3 (pc1 := 159) (L1 := [some (.ref 211), some (.int x1), some (.int x2), some (.int x3), some (.int v121), some (.int v124)]) (st1 := [.ref 211, .int 3, .int 72, .ref 221]) (M1 := mjTo Z132) rfl ?_
        refine pG_getI (ci := 12) (f := 22) rfl rfl (Or.inl rfl) (by rfl) ?_
        refine pG_many 3 (pc1 := 166) (L1 := [some (.ref 211), some (.int x1), some (.int x2), some (.int x3), some (.int v121), some (.int v124)]) (st1 := [.int v121, .int (72 + (3 * (Z132.1 211 22))), .ref 221]) (M1 := mjTo Z132) rfl ?_
        have hk133 : mjIn (72 + (3 * (Z132.1 211 22))) 108 = true := by
          by_cases q9 : mjIn (72 + (3 * (Z132.1 211 22))) 108 = true
          · exact q9
          · rw [if_neg q9] at h; cases h
        rw [if_pos hk133] at h
        refine pG_ias rfl (by rfl) hk133 (?_ : pG 230 167 [some (.ref 211), some (.int x1), some (.int x2), some (.int x3), some (.int v121), some (.int v124)] [] (mjTo (zSi Z132 221 (mjIx (72 + (3 * (Z132.1 211 22)))) v121)) _)
        rw [mjLet] at h
        generalize zSi Z132 221 (mjIx (72 + (3 * (Z132.1 211 22)))) v121 = Z134 at h ⊢
        refine pG_many 1 (pc1 := 168) (L1 := [some (.ref 211), some (.int x1), some (.int x2), some (.int x3), some (.int v121), some (.int v124)]) (st1 := [.ref 211]) (M1 := mjTo Z134) rfl ?_
        refine pG_getR (ci := 12) (f := 31) (b := 221) rfl rfl rfl (by rfl) rfl ?_
        refine pG_many 3 (pc1 := 175) (L1 := [some (.ref 211), some (.int x1), some (.int x2), some (.int x3), some (.int v121), some (.int v124)]) (st1 := [.ref 211, .int 3, .int 72, .ref 221]) (M1 := mjTo Z134) rfl ?_
        refine pG_getI (ci := 12) (f := 22) rfl rfl (Or.inl rfl) (by rfl) ?_
        refine pG_many 5 (pc1 := 184) (L1 := [some (.ref 211), some (.int x1), some (.int x2), some (.int x3), some (.int v121), some (.int v124)]) (st1 := [.int v124, .int ((72 + (3 * (Z134.1 211 22))) + 1), .ref 221]) (M1 := mjTo Z134) rfl ?_
        have hk135 : mjIn ((72 + (3 * (Z134.1 211 22))) + 1) 108 = true := by
          by_cases q9 : mjIn ((72 + (3 * (Z134.1 211 22))) + 1) 108 = true
          · exact q9
          · rw [if_neg q9] at h; cases h
        rw [if_pos hk135] at h
        refine pG_ias rfl (by rfl) hk135 (?_ : pG 230 185 [some (.ref 211), some (.int x1), some (.int x2), some (.int x3), some (.int v121), some (.int v124)] [] (mjTo (zSi Z134 221 (mjIx ((72 + (3 * (Z134.1 211 22))) + 1)) v124)) _)
        rw [mjLet] at h
        generalize zSi Z134 221 (mjIx ((72 + (3 * (Z134.1 211 22))) + 1)) v124 = Z136 at h ⊢
        refine pG_many 1 (pc1 := 186) (L1 := [some (.ref 211), some (.int x1), some (.int x2), some (.int x3), some (.int v121), some (.int v124)]) (st1 := [.ref 211]) (M1 := mjTo Z136) rfl ?_
        refine pG_getR (ci := 12) (f := 31) (b := 221) rfl rfl rfl (by rfl) rfl ?_
        refine pG_many 3 (pc1 := 193) (L1 := [some (.ref 211), some (.int x1), some (.int x2), some (.int x3), some (.int v121), some (.int v124)]) (st1 := [.ref 211, .int 3, .int 72, .ref 221]) (M1 := mjTo Z136) rfl ?_
        refine pG_getI (ci := 12) (f := 22) rfl rfl (Or.inl rfl) (by rfl) ?_
        refine pG_many 5 (pc1 := 201) (L1 := [some (.ref 211), some (.int x1), some (.int x2), some (.int x3), some (.int v121), some (.int v124)]) (st1 := [.int 0, .int ((72 + (3 * (Z136.1 211 22))) + 2), .ref 221]) (M1 := mjTo Z136) rfl ?_
        have hk137 : mjIn ((72 + (3 * (Z136.1 211 22))) + 2) 108 = true := by
          by_cases q9 : mjIn ((72 + (3 * (Z136.1 211 22))) + 2) 108 = true
          · exact q9
          · rw [if_neg q9] at h; cases h
        rw [if_pos hk137] at h
        refine pG_ias rfl (by rfl) hk137 (?_ : pG 230 202 [some (.ref 211), some (.int x1), some (.int x2), some (.int x3), some (.int v121), some (.int v124)] [] (mjTo (zSi Z136 221 (mjIx ((72 + (3 * (Z136.1 211 22))) + 2)) 0)) _)
        rw [mjLet] at h
        generalize zSi Z136 221 (mjIx ((72 + (3 * (Z136.1 211 22))) + 2)) 0 = Z138 at h ⊢
        refine pG_many 2 (pc1 := 204) (L1 := [some (.ref 211), some (.int x1), some (.int x2), some (.int x3), some (.int v121), some (.int v124)]) (st1 := [.ref 211, .ref 211]) (M1 := mjTo Z138) rfl ?_
        refine pG_getI (ci := 12) (f := 22) rfl rfl (Or.inl rfl) (by rfl) ?_
        refine pG_many 2 (pc1 := 209) (L1 := [some (.ref 211), some (.int x1), some (.int x2), some (.int x3), some (.int v121), some (.int v124)]) (st1 := [.int ((Z138.1 211 22) + 1), .ref 211]) (M1 := mjTo Z138) rfl ?_
        refine pG_putI (ci := 12) (f := 22) rfl rfl rfl rfl (by rfl) ?_
        rw [mjLet] at h
        generalize zSi Z138 211 22 ((Z138.1 211 22) + 1) = Z139 at h ⊢
        simp only [Option.some.injEq, Prod.mk.injEq] at h
        obtain ⟨-, rfl⟩ := h
        exact pG_ret (r := none) rfl ⟨rfl, rfl⟩
      · rw [if_neg hc126] at h
        refine pG_iff (t := 121) rfl rfl hc126 ?_
        simp only [Option.some.injEq, Prod.mk.injEq] at h
        obtain ⟨-, rfl⟩ := h
        exact pG_ret (r := none) rfl ⟨rfl, rfl⟩
def f230_actLine_j83 (x1 : Int32) (x2 : Int32) (x3 : Int32) (Z : mjZt) : Option (Unit × mjZt) :=
  mjBp (f207_isGood  Z) fun v149 =>
  if mjCmp .eq v149 0 = true then
    f230_actLine_j94 x1 x2 x3 Z
  else
    mjBd (f205_goOn  Z) fun _ Z154 =>
    f230_actLine_j94 x1 x2 x3 Z154
theorem f230_actLine_j83_ok (x1 : Int32) (x2 : Int32) (x3 : Int32) (d4 d5 : Option Value) (Z : mjZt) (v9 : Unit) (Z9 : mjZt) (h : f230_actLine_j83 x1 x2 x3 Z = some (v9, Z9)) : pG 230 83 [some (.ref 211), some (.int x1), some (.int x2), some (.int x3), d4, d5] [] (mjTo Z) (fun r M1 => r = none ∧ M1 = mjTo Z9) := by
  unfold f230_actLine_j83 at h
  refine pG_many 1 (pc1 := 84) (L1 := [some (.ref 211), some (.int x1), some (.int x2), some (.int x3), d4, d5]) (st1 := [.ref 211]) (M1 := mjTo Z) rfl ?_
  cases hq148 : f207_isGood  Z with
  | none => rw [hq148] at h; cases h
  | some v149 =>
    rw [hq148, mjBp_some] at h
    refine pG_callV (k2 := 207) (As := [.ref 211]) (rest := []) rfl rfl rfl rfl rfl (by rfl) (by decide) (f207_isGood_ok hq148) ?_
    rintro r9 M9 ⟨rfl, rfl⟩
    show pG 230 87 [some (.ref 211), some (.int x1), some (.int x2), some (.int x3), d4, d5] [.int v149] (mjTo Z) _
    by_cases hc151 : mjCmp .eq v149 0 = true
    · rw [if_pos hc151] at h
      refine pG_ift (t := 94) rfl rfl hc151 ?_
      exact f230_actLine_j94_ok x1 x2 x3 d4 d5 Z v9 Z9 h
    · rw [if_neg hc151] at h
      refine pG_iff (t := 94) rfl rfl hc151 ?_
      refine pG_many 1 (pc1 := 91) (L1 := [some (.ref 211), some (.int x1), some (.int x2), some (.int x3), d4, d5]) (st1 := [.ref 211]) (M1 := mjTo Z) rfl ?_
      cases hq152 : f205_goOn  Z with
      | none => rw [hq152] at h; cases h
      | some w =>
        obtain ⟨v153, Z154⟩ := w
        rw [hq152, mjBd_some] at h
        refine pG_callV (k2 := 205) (As := [.ref 211]) (rest := []) rfl rfl rfl rfl rfl (by rfl) (by decide) (f205_goOn_ok hq152) ?_
        rintro r9 M9 ⟨rfl, rfl⟩
        show pG 230 94 [some (.ref 211), some (.int x1), some (.int x2), some (.int x3), d4, d5] [] (mjTo Z154) _
        exact f230_actLine_j94_ok x1 x2 x3 d4 d5 Z154 v9 Z9 h
def f230_actLine_j47 (x1 : Int32) (x2 : Int32) (Z : mjZt) : Option (Unit × mjZt) :=
  mjBp (f207_isGood  Z) fun v117 =>
  if mjCmp .eq v117 0 = true then
    f230_actLine_j94 x1 x2 ((-1)) Z
  else
    if mjCmp .ne x1 3 = true then
      f230_actLine_j94 x1 x2 ((-1)) Z
    else
      mjBd (f226_teamHere  Z) fun v142 Z143 =>
      mjBp (f207_isGood  Z143) fun v145 =>
      if mjCmp .eq v145 0 = true then
        f230_actLine_j83 x1 x2 v142 Z143
      else
        if mjCmp .ne v142 x2 = true then
          f230_actLine_j83 x1 x2 v142 Z143
        else
          mjBd (f206_wrong 3 Z143) fun _ Z158 =>
          f230_actLine_j83 x1 x2 v142 Z158
theorem f230_actLine_j47_ok (x1 : Int32) (x2 : Int32) (d3 d4 d5 : Option Value) (Z : mjZt) (v9 : Unit) (Z9 : mjZt) (h : f230_actLine_j47 x1 x2 Z = some (v9, Z9)) : pG 230 47 [some (.ref 211), some (.int x1), some (.int x2), d3, d4, d5] [] (mjTo Z) (fun r M1 => r = none ∧ M1 = mjTo Z9) := by
  unfold f230_actLine_j47 at h
  refine pG_many 3 (pc1 := 50) (L1 := [some (.ref 211), some (.int x1), some (.int x2), some (.int ((-1))), d4, d5]) (st1 := [.ref 211]) (M1 := mjTo Z) rfl ?_
  cases hq116 : f207_isGood  Z with
  | none => rw [hq116] at h; cases h
  | some v117 =>
    rw [hq116, mjBp_some] at h
    refine pG_callV (k2 := 207) (As := [.ref 211]) (rest := []) rfl rfl rfl rfl rfl (by rfl) (by decide) (f207_isGood_ok hq116) ?_
    rintro r9 M9 ⟨rfl, rfl⟩
    show pG 230 53 [some (.ref 211), some (.int x1), some (.int x2), some (.int ((-1))), d4, d5] [.int v117] (mjTo Z) _
    by_cases hc119 : mjCmp .eq v117 0 = true
    · rw [if_pos hc119] at h
      refine pG_ift (t := 94) rfl rfl hc119 ?_
      exact f230_actLine_j94_ok x1 x2 ((-1)) d4 d5 Z v9 Z9 h
    · rw [if_neg hc119] at h
      refine pG_iff (t := 94) rfl rfl hc119 ?_
      refine pG_many 2 (pc1 := 58) (L1 := [some (.ref 211), some (.int x1), some (.int x2), some (.int ((-1))), d4, d5]) (st1 := [.int 3, .int x1]) (M1 := mjTo Z) rfl ?_
      by_cases hc140 : mjCmp .ne x1 3 = true
      · rw [if_pos hc140] at h
        refine pG_cmt (t := 94) rfl rfl hc140 ?_
        exact f230_actLine_j94_ok x1 x2 ((-1)) d4 d5 Z v9 Z9 h
      · rw [if_neg hc140] at h
        refine pG_cmf (t := 94) rfl rfl hc140 ?_
        refine pG_many 1 (pc1 := 62) (L1 := [some (.ref 211), some (.int x1), some (.int x2), some (.int ((-1))), d4, d5]) (st1 := [.ref 211]) (M1 := mjTo Z) rfl ?_
        cases hq141 : f226_teamHere  Z with
        | none => rw [hq141] at h; cases h
        | some w =>
          obtain ⟨v142, Z143⟩ := w
          rw [hq141, mjBd_some] at h
          refine pG_callV (k2 := 226) (As := [.ref 211]) (rest := []) rfl rfl rfl rfl rfl (by rfl) (by decide) (f226_teamHere_ok hq141) ?_
          rintro r9 M9 ⟨rfl, rfl⟩
          show pG 230 65 [some (.ref 211), some (.int x1), some (.int x2), some (.int ((-1))), d4, d5] [.int v142] (mjTo Z143) _
          refine pG_many 2 (pc1 := 67) (L1 := [some (.ref 211), some (.int x1), some (.int x2), some (.int v142), d4, d5]) (st1 := [.ref 211]) (M1 := mjTo Z143) rfl ?_
          cases hq144 : f207_isGood  Z143 with
          | none => rw [hq144] at h; cases h
          | some v145 =>
            rw [hq144, mjBp_some] at h
            refine pG_callV (k2 := 207) (As := [.ref 211]) (rest := []) rfl rfl rfl rfl rfl (by rfl) (by decide) (f207_isGood_ok hq144) ?_
            rintro r9 M9 ⟨rfl, rfl⟩
            show pG 230 70 [some (.ref 211), some (.int x1), some (.int x2), some (.int v142), d4, d5] [.int v145] (mjTo Z143) _
            by_cases hc147 : mjCmp .eq v145 0 = true
            · rw [if_pos hc147] at h
              refine pG_ift (t := 83) rfl rfl hc147 ?_
              exact f230_actLine_j83_ok x1 x2 v142 d4 d5 Z143 v9 Z9 h
            · rw [if_neg hc147] at h
              refine pG_iff (t := 83) rfl rfl hc147 ?_
              refine pG_many 2 (pc1 := 75) (L1 := [some (.ref 211), some (.int x1), some (.int x2), some (.int v142), d4, d5]) (st1 := [.int x2, .int v142]) (M1 := mjTo Z143) rfl ?_
              by_cases hc155 : mjCmp .ne v142 x2 = true
              · rw [if_pos hc155] at h
                refine pG_cmt (t := 83) rfl rfl hc155 ?_
                exact f230_actLine_j83_ok x1 x2 v142 d4 d5 Z143 v9 Z9 h
              · rw [if_neg hc155] at h
                refine pG_cmf (t := 83) rfl rfl hc155 ?_
                refine pG_many 2 (pc1 := 80) (L1 := [some (.ref 211), some (.int x1), some (.int x2), some (.int v142), d4, d5]) (st1 := [.int 3, .ref 211]) (M1 := mjTo Z143) rfl ?_
                cases hq156 : f206_wrong 3 Z143 with
                | none => rw [hq156] at h; cases h
                | some w =>
                  obtain ⟨v157, Z158⟩ := w
                  rw [hq156, mjBd_some] at h
                  refine pG_callV (k2 := 206) (As := [.ref 211, .int 3]) (rest := []) rfl rfl rfl rfl rfl (by rfl) (by decide) (f206_wrong_ok hq156) ?_
                  rintro r9 M9 ⟨rfl, rfl⟩
                  show pG 230 83 [some (.ref 211), some (.int x1), some (.int x2), some (.int v142), d4, d5] [] (mjTo Z158) _
                  exact f230_actLine_j83_ok x1 x2 v142 d4 d5 Z158 v9 Z9 h
def f230_actLine_j25  (Z : mjZt) : Option (Unit × mjZt) :=
  mjBd (f229_kindHere 4 Z) fun v107 Z108 =>
  mjBd (f226_teamHere  Z108) fun v110 Z111 =>
  mjBp (f207_isGood  Z111) fun v113 =>
  if mjCmp .eq v113 0 = true then
    f230_actLine_j47 v107 v110 Z111
  else
    mjBd (f205_goOn  Z111) fun _ Z161 =>
    f230_actLine_j47 v107 v110 Z161
theorem f230_actLine_j25_ok  (d1 d2 d3 d4 d5 : Option Value) (Z : mjZt) (v9 : Unit) (Z9 : mjZt) (h : f230_actLine_j25  Z = some (v9, Z9)) : pG 230 25 [some (.ref 211), d1, d2, d3, d4, d5] [] (mjTo Z) (fun r M1 => r = none ∧ M1 = mjTo Z9) := by
  unfold f230_actLine_j25 at h
  refine pG_many 2 (pc1 := 27) (L1 := [some (.ref 211), d1, d2, d3, d4, d5]) (st1 := [.int 4, .ref 211]) (M1 := mjTo Z) rfl ?_
  cases hq106 : f229_kindHere 4 Z with
  | none => rw [hq106] at h; cases h
  | some w =>
    obtain ⟨v107, Z108⟩ := w
    rw [hq106, mjBd_some] at h
    refine pG_callV (k2 := 229) (As := [.ref 211, .int 4]) (rest := []) rfl rfl rfl rfl rfl (by rfl) (by decide) (f229_kindHere_ok hq106) ?_
    rintro r9 M9 ⟨rfl, rfl⟩
    show pG 230 30 [some (.ref 211), d1, d2, d3, d4, d5] [.int v107] (mjTo Z108) _
    refine pG_many 2 (pc1 := 32) (L1 := [some (.ref 211), some (.int v107), d2, d3, d4, d5]) (st1 := [.ref 211]) (M1 := mjTo Z108) rfl ?_
    cases hq109 : f226_teamHere  Z108 with
    | none => rw [hq109] at h; cases h
    | some w =>
      obtain ⟨v110, Z111⟩ := w
      rw [hq109, mjBd_some] at h
      refine pG_callV (k2 := 226) (As := [.ref 211]) (rest := []) rfl rfl rfl rfl rfl (by rfl) (by decide) (f226_teamHere_ok hq109) ?_
      rintro r9 M9 ⟨rfl, rfl⟩
      show pG 230 35 [some (.ref 211), some (.int v107), d2, d3, d4, d5] [.int v110] (mjTo Z111) _
      refine pG_many 2 (pc1 := 37) (L1 := [some (.ref 211), some (.int v107), some (.int v110), d3, d4, d5]) (st1 := [.ref 211]) (M1 := mjTo Z111) rfl ?_
      cases hq112 : f207_isGood  Z111 with
      | none => rw [hq112] at h; cases h
      | some v113 =>
        rw [hq112, mjBp_some] at h
        refine pG_callV (k2 := 207) (As := [.ref 211]) (rest := []) rfl rfl rfl rfl rfl (by rfl) (by decide) (f207_isGood_ok hq112) ?_
        rintro r9 M9 ⟨rfl, rfl⟩
        show pG 230 40 [some (.ref 211), some (.int v107), some (.int v110), d3, d4, d5] [.int v113] (mjTo Z111) _
        by_cases hc115 : mjCmp .eq v113 0 = true
        · rw [if_pos hc115] at h
          refine pG_ift (t := 47) rfl rfl hc115 ?_
          exact f230_actLine_j47_ok v107 v110 d3 d4 d5 Z111 v9 Z9 h
        · rw [if_neg hc115] at h
          refine pG_iff (t := 47) rfl rfl hc115 ?_
          refine pG_many 1 (pc1 := 44) (L1 := [some (.ref 211), some (.int v107), some (.int v110), d3, d4, d5]) (st1 := [.ref 211]) (M1 := mjTo Z111) rfl ?_
          cases hq159 : f205_goOn  Z111 with
          | none => rw [hq159] at h; cases h
          | some w =>
            obtain ⟨v160, Z161⟩ := w
            rw [hq159, mjBd_some] at h
            refine pG_callV (k2 := 205) (As := [.ref 211]) (rest := []) rfl rfl rfl rfl rfl (by rfl) (by decide) (f205_goOn_ok hq159) ?_
            rintro r9 M9 ⟨rfl, rfl⟩
            show pG 230 47 [some (.ref 211), some (.int v107), some (.int v110), d3, d4, d5] [] (mjTo Z161) _
            exact f230_actLine_j47_ok v107 v110 d3 d4 d5 Z161 v9 Z9 h
def f230_actLine_j14  (Z : mjZt) : Option (Unit × mjZt) :=
  mjBp (f207_isGood  Z) fun v103 =>
  if mjCmp .eq v103 0 = true then
    f230_actLine_j25  Z
  else
    mjBd (f205_goOn  Z) fun _ Z164 =>
    f230_actLine_j25  Z164
theorem f230_actLine_j14_ok  (d1 d2 d3 d4 d5 : Option Value) (Z : mjZt) (v9 : Unit) (Z9 : mjZt) (h : f230_actLine_j14  Z = some (v9, Z9)) : pG 230 14 [some (.ref 211), d1, d2, d3, d4, d5] [] (mjTo Z) (fun r M1 => r = none ∧ M1 = mjTo Z9) := by
  unfold f230_actLine_j14 at h
  refine pG_many 1 (pc1 := 15) (L1 := [some (.ref 211), d1, d2, d3, d4, d5]) (st1 := [.ref 211]) (M1 := mjTo Z) rfl ?_
  cases hq102 : f207_isGood  Z with
  | none => rw [hq102] at h; cases h
  | some v103 =>
    rw [hq102, mjBp_some] at h
    refine pG_callV (k2 := 207) (As := [.ref 211]) (rest := []) rfl rfl rfl rfl rfl (by rfl) (by decide) (f207_isGood_ok hq102) ?_
    rintro r9 M9 ⟨rfl, rfl⟩
    show pG 230 18 [some (.ref 211), d1, d2, d3, d4, d5] [.int v103] (mjTo Z) _
    by_cases hc105 : mjCmp .eq v103 0 = true
    · rw [if_pos hc105] at h
      refine pG_ift (t := 25) rfl rfl hc105 ?_
      exact f230_actLine_j25_ok d1 d2 d3 d4 d5 Z v9 Z9 h
    · rw [if_neg hc105] at h
      refine pG_iff (t := 25) rfl rfl hc105 ?_
      refine pG_many 1 (pc1 := 22) (L1 := [some (.ref 211), d1, d2, d3, d4, d5]) (st1 := [.ref 211]) (M1 := mjTo Z) rfl ?_
      cases hq162 : f205_goOn  Z with
      | none => rw [hq162] at h; cases h
      | some w =>
        obtain ⟨v163, Z164⟩ := w
        rw [hq162, mjBd_some] at h
        refine pG_callV (k2 := 205) (As := [.ref 211]) (rest := []) rfl rfl rfl rfl rfl (by rfl) (by decide) (f205_goOn_ok hq162) ?_
        rintro r9 M9 ⟨rfl, rfl⟩
        show pG 230 25 [some (.ref 211), d1, d2, d3, d4, d5] [] (mjTo Z164) _
        exact f230_actLine_j25_ok d1 d2 d3 d4 d5 Z164 v9 Z9 h
def f230_actLine  (Z : mjZt) : Option (Unit × mjZt) :=
  if mjCmp .ne (Z.1 211 22) 12 = true then
    f230_actLine_j14  Z
  else
    mjBd (f206_wrong 5 Z) fun _ Z167 =>
    f230_actLine_j14  Z167
theorem f230_actLine_ok  {Z : mjZt} {v9 : Unit} {Z9 : mjZt} (h : f230_actLine  Z = some (v9, Z9)) : pG 230 0 (mjEnt [.ref 211] (mjML 230)) [] (mjTo Z) (fun r M1 => r = none ∧ M1 = mjTo Z9) := by
  unfold f230_actLine at h
  show pG 230 0 [some (.ref 211), none, none, none, none, none] [] (mjTo Z) _
  refine pG_many 1 (pc1 := 1) (L1 := [some (.ref 211), none, none, none, none, none]) (st1 := [.ref 211]) (M1 := mjTo Z) rfl ?_
  refine pG_getI (ci := 12) (f := 22) rfl rfl (Or.inl rfl) (by rfl) ?_
  refine pG_many 1 (pc1 := 6) (L1 := [some (.ref 211), none, none, none, none, none]) (st1 := [.int 12, .int (Z.1 211 22)]) (M1 := mjTo Z) rfl ?_
  by_cases hc101 : mjCmp .ne (Z.1 211 22) 12 = true
  · rw [if_pos hc101] at h
    refine pG_cmt (t := 14) rfl rfl hc101 ?_
    exact f230_actLine_j14_ok none none none none none Z v9 Z9 h
  · rw [if_neg hc101] at h
    refine pG_cmf (t := 14) rfl rfl hc101 ?_
    refine pG_many 2 (pc1 := 11) (L1 := [some (.ref 211), none, none, none, none, none]) (st1 := [.int 5, .ref 211]) (M1 := mjTo Z) rfl ?_
    cases hq165 : f206_wrong 5 Z with
    | none => rw [hq165] at h; cases h
    | some w =>
      obtain ⟨v166, Z167⟩ := w
      rw [hq165, mjBd_some] at h
      refine pG_callV (k2 := 206) (As := [.ref 211, .int 5]) (rest := []) rfl rfl rfl rfl rfl (by rfl) (by decide) (f206_wrong_ok hq165) ?_
      rintro r9 M9 ⟨rfl, rfl⟩
      show pG 230 14 [some (.ref 211), none, none, none, none, none] [] (mjTo Z167) _
      exact f230_actLine_j14_ok none none none none none Z167 v9 Z9 h
def f231_ruleLine_j163 (x1 : Int32) (Z : mjZt) : Option (Unit × mjZt) :=
  if mjIn ((4 * (Z.1 211 23)) + 3) 32 = true then
  mjLet (zSi Z 226 (mjIx ((4 * (Z.1 211 23)) + 3)) (Z.1 211 17)) fun Z136 =>
  if mjCmp .le (Z136.1 211 9) 0 = true then
    if mjIn (Z136.1 211 23) 8 = true then
    mjLet (zSi Z136 225 (mjIx (Z136.1 211 23)) x1) fun Z139 =>
    mjLet (zSi Z139 211 23 ((Z139.1 211 23) + 1)) fun Z140 =>
    some ((), Z140)
    else none
  else
    some ((), Z136)
  else none
theorem f231_ruleLine_j163_ok (x1 : Int32) (Z : mjZt) (v9 : Unit) (Z9 : mjZt) (h : f231_ruleLine_j163 x1 Z = some (v9, Z9)) : pG 231 163 [some (.ref 211), some (.int x1)] [] (mjTo Z) (fun r M1 => r = none ∧ M1 = mjTo Z9) := by
  unfold f231_ruleLine_j163 at h
  refine pG_many 1 (pc1 := 164) (L1 := [some (.ref 211), some (.int x1)]) (st1 := [.ref 211]) (M1 := mjTo Z) rfl ?_
  refine pG_getR (ci := 12) (f := 36) (b := 226) rfl rfl rfl (by rfl) rfl ?_
  refine pG_many 2 (pc1 := 169) (L1 := [some (.ref 211), some (.int x1)]) (st1 := [.ref 211, .int 4, .ref 226]) (M1 := mjTo Z) rfl ?_
  refine pG_getI (ci := 12) (f := 23) rfl rfl (Or.inl rfl) (by rfl) ?_
  refine pG_many 4 (pc1 := 176) (L1 := [some (.ref 211), some (.int x1)]) (st1 := [.ref 211, .int ((4 * (Z.1 211 23)) + 3), .ref 226]) (M1 := mjTo Z) rfl ?_
  refine pG_getI (ci := 12) (f := 17) rfl rfl (Or.inl rfl) (by rfl) ?_
  have hk135 : mjIn ((4 * (Z.1 211 23)) + 3) 32 = true := by
    by_cases q9 : mjIn ((4 * (Z.1 211 23)) + 3) 32 = true
    · exact q9
    · rw [if_neg q9] at h; cases h
  rw [if_pos hk135] at h
  refine pG_ias rfl (by rfl) hk135 (?_ : pG 231 180 [some (.ref 211), some (.int x1)] [] (mjTo (zSi Z 226 (mjIx ((4 * (Z.1 211 23)) + 3)) (Z.1 211 17))) _)
  rw [mjLet] at h
  generalize zSi Z 226 (mjIx ((4 * (Z.1 211 23)) + 3)) (Z.1 211 17) = Z136 at h ⊢
  refine pG_many 1 (pc1 := 181) (L1 := [some (.ref 211), some (.int x1)]) (st1 := [.ref 211]) (M1 := mjTo Z136) rfl ?_
  refine pG_getI (ci := 12) (f := 9) rfl rfl (Or.inl rfl) (by rfl) ?_
  by_cases hc137 : mjCmp .le (Z136.1 211 9) 0 = true
  · rw [if_pos hc137] at h
    refine pG_ift (t := 188) rfl rfl hc137 ?_
    refine pG_many 1 (pc1 := 189) (L1 := [some (.ref 211), some (.int x1)]) (st1 := [.ref 211]) (M1 := mjTo Z136) rfl ?_
    refine pG_getR (ci := 12) (f := 35) (b := 225) rfl rfl rfl (by rfl) rfl ?_
    refine pG_many 1 (pc1 := 193) (L1 := [some (.ref 211), some (.int x1)]) (st1 := [.ref 211, .ref 225]) (M1 := mjTo Z136) rfl ?_
    refine pG_getI (ci := 12) (f := 23) rfl rfl (Or.inl rfl) (by rfl) ?_
    refine pG_many 1 (pc1 := 197) (L1 := [some (.ref 211), some (.int x1)]) (st1 := [.int x1, .int (Z136.1 211 23), .ref 225]) (M1 := mjTo Z136) rfl ?_
    have hk138 : mjIn (Z136.1 211 23) 8 = true := by
      by_cases q9 : mjIn (Z136.1 211 23) 8 = true
      · exact q9
      · rw [if_neg q9] at h; cases h
    rw [if_pos hk138] at h
    refine pG_ias rfl (by rfl) hk138 (?_ : pG 231 198 [some (.ref 211), some (.int x1)] [] (mjTo (zSi Z136 225 (mjIx (Z136.1 211 23)) x1)) _)
    rw [mjLet] at h
    generalize zSi Z136 225 (mjIx (Z136.1 211 23)) x1 = Z139 at h ⊢
    refine pG_many 2 (pc1 := 200) (L1 := [some (.ref 211), some (.int x1)]) (st1 := [.ref 211, .ref 211]) (M1 := mjTo Z139) rfl ?_
    refine pG_getI (ci := 12) (f := 23) rfl rfl (Or.inl rfl) (by rfl) ?_
    refine pG_many 2 (pc1 := 205) (L1 := [some (.ref 211), some (.int x1)]) (st1 := [.int ((Z139.1 211 23) + 1), .ref 211]) (M1 := mjTo Z139) rfl ?_
    refine pG_putI (ci := 12) (f := 23) rfl rfl rfl rfl (by rfl) ?_
    rw [mjLet] at h
    generalize zSi Z139 211 23 ((Z139.1 211 23) + 1) = Z140 at h ⊢
    simp only [Option.some.injEq, Prod.mk.injEq] at h
    obtain ⟨-, rfl⟩ := h
    exact pG_ret (r := none) rfl ⟨rfl, rfl⟩
  · rw [if_neg hc137] at h
    refine pG_iff (t := 188) rfl rfl hc137 ?_
    simp only [Option.some.injEq, Prod.mk.injEq] at h
    obtain ⟨-, rfl⟩ := h
    exact pG_ret (r := none) rfl ⟨rfl, rfl⟩
def f231_ruleLine_j84 (x1 : Int32) (Z : mjZt) : Option (Unit × mjZt) :=
  if mjCmp .le (Z.1 211 9) 0 = true then
    if mjIn (4 * (Z.1 211 23)) 32 = true then
    mjLet (zSi Z 226 (mjIx (4 * (Z.1 211 23))) (Z.1 211 17)) fun Z123 =>
    mjBd (f224_test  Z123) fun _ Z126 =>
    if mjIn ((4 * (Z126.1 211 23)) + 1) 32 = true then
    mjLet (zSi Z126 226 (mjIx ((4 * (Z126.1 211 23)) + 1)) (Z126.1 211 17)) fun Z128 =>
    if mjIn ((4 * (Z128.1 211 23)) + 2) 32 = true then
    mjLet (zSi Z128 226 (mjIx ((4 * (Z128.1 211 23)) + 2)) (Z128.1 211 17)) fun Z130 =>
    mjBp (f208_isWord 111567739122533 Z130) fun v132 =>
    if mjCmp .eq v132 0 = true then
      f231_ruleLine_j163 x1 Z130
    else
      mjBd (f205_goOn  Z130) fun _ Z143 =>
      mjBd (f224_test  Z143) fun _ Z146 =>
      f231_ruleLine_j163 x1 Z146
    else none
    else none
    else none
  else
    some ((), Z)
theorem f231_ruleLine_j84_ok (x1 : Int32) (Z : mjZt) (v9 : Unit) (Z9 : mjZt) (h : f231_ruleLine_j84 x1 Z = some (v9, Z9)) : pG 231 84 [some (.ref 211), some (.int x1)] [] (mjTo Z) (fun r M1 => r = none ∧ M1 = mjTo Z9) := by
  unfold f231_ruleLine_j84 at h
  refine pG_many 1 (pc1 := 85) (L1 := [some (.ref 211), some (.int x1)]) (st1 := [.ref 211]) (M1 := mjTo Z) rfl ?_
  refine pG_getI (ci := 12) (f := 9) rfl rfl (Or.inl rfl) (by rfl) ?_
  by_cases hc121 : mjCmp .le (Z.1 211 9) 0 = true
  · rw [if_pos hc121] at h
    refine pG_ift (t := 92) rfl rfl hc121 ?_
    refine pG_many 1 (pc1 := 93) (L1 := [some (.ref 211), some (.int x1)]) (st1 := [.ref 211]) (M1 := mjTo Z) rfl ?_
    refine pG_getR (ci := 12) (f := 36) (b := 226) rfl rfl rfl (by rfl) rfl ?_
    refine pG_many 2 (pc1 := 98) (L1 := [some (.ref 211), some (.int x1)]) (st1 := [.ref 211, .int 4, .ref 226]) (M1 := mjTo Z) rfl ?_
    refine pG_getI (ci := 12) (f := 23) rfl rfl (Or.inl rfl) (by rfl) ?_
    refine pG_many 2 (pc1 := 103) (L1 := [some (.ref 211), some (.int x1)]) (st1 := [.ref 211, .int (4 * (Z.1 211 23)), .ref 226]) (M1 := mjTo Z) rfl ?_
    refine pG_getI (ci := 12) (f := 17) rfl rfl (Or.inl rfl) (by rfl) ?_
    have hk122 : mjIn (4 * (Z.1 211 23)) 32 = true := by
      by_cases q9 : mjIn (4 * (Z.1 211 23)) 32 = true
      · exact q9
      · rw [if_neg q9] at h; cases h
    rw [if_pos hk122] at h
    refine pG_ias rfl (by rfl) hk122 (?_ : pG 231 107 [some (.ref 211), some (.int x1)] [] (mjTo (zSi Z 226 (mjIx (4 * (Z.1 211 23))) (Z.1 211 17))) _)
    rw [mjLet] at h
    generalize zSi Z 226 (mjIx (4 * (Z.1 211 23))) (Z.1 211 17) = Z123 at h ⊢
    refine pG_many 1 (pc1 := 108) (L1 := [some (.ref 211), some (.int x1)]) (st1 := [.ref 211]) (M1 := mjTo Z123) rfl ?_
    cases hq124 : f224_test  Z123 with
    | none => rw [hq124] at h; cases h
    | some w =>
      obtain ⟨v125, Z126⟩ := w
      rw [hq124, mjBd_some] at h
      refine pG_callV (k2 := 224) (As := [.ref 211]) (rest := []) rfl rfl rfl rfl rfl (by rfl) (by decide) (f224_test_ok hq124) ?_
      rintro r9 M9 ⟨rfl, rfl⟩
      show pG 231 111 [some (.ref 211), some (.int x1)] [] (mjTo Z126) _
      refine pG_many 1 (pc1 := 112) (L1 := [some (.ref 211), some (.int x1)]) (st1 := [.ref 211]) (M1 := mjTo Z126) rfl ?_
      refine pG_getR (ci := 12) (f := 36) (b := 226) rfl rfl rfl (by rfl) rfl ?_
      refine pG_many 2 (pc1 := 117) (L1 := [some (.ref 211), some (.int x1)]) (st1 := [.ref 211, .int 4, .ref 226]) (M1 := mjTo Z126) rfl ?_
      refine pG_getI (ci := 12) (f := 23) rfl rfl (Or.inl rfl) (by rfl) ?_
      refine pG_many 4 (pc1 := 124) (L1 := [some (.ref 211), some (.int x1)]) (st1 := [.ref 211, .int ((4 * (Z126.1 211 23)) + 1), .ref 226]) (M1 := mjTo Z126) rfl ?_
      refine pG_getI (ci := 12) (f := 17) rfl rfl (Or.inl rfl) (by rfl) ?_
      have hk127 : mjIn ((4 * (Z126.1 211 23)) + 1) 32 = true := by
        by_cases q9 : mjIn ((4 * (Z126.1 211 23)) + 1) 32 = true
        · exact q9
        · rw [if_neg q9] at h; cases h
      rw [if_pos hk127] at h
      refine pG_ias rfl (by rfl) hk127 (?_ : pG 231 128 [some (.ref 211), some (.int x1)] [] (mjTo (zSi Z126 226 (mjIx ((4 * (Z126.1 211 23)) + 1)) (Z126.1 211 17))) _)
      rw [mjLet] at h
      generalize zSi Z126 226 (mjIx ((4 * (Z126.1 211 23)) + 1)) (Z126.1 211 17) = Z128 at h ⊢
      refine pG_many 1 (pc1 := 129) (L1 := [some (.ref 211), some (.int x1)]) (st1 := [.ref 211]) (M1 := mjTo Z128) rfl ?_
      refine pG_getR (ci := 12) (f := 36) (b := 226) rfl rfl rfl (by rfl) rfl ?_
      refine pG_many 2 (pc1 := 134) (L1 := [some (.ref 211), some (.int x1)]) (st1 := [.ref 211, .int 4, .ref 226]) (M1 := mjTo Z128) rfl ?_
      refine pG_getI (ci := 12) (f := 23) rfl rfl (Or.inl rfl) (by rfl) ?_
      refine pG_many 4 (pc1 := 141) (L1 := [some (.ref 211), some (.int x1)]) (st1 := [.ref 211, .int ((4 * (Z128.1 211 23)) + 2), .ref 226]) (M1 := mjTo Z128) rfl ?_
      refine pG_getI (ci := 12) (f := 17) rfl rfl (Or.inl rfl) (by rfl) ?_
      have hk129 : mjIn ((4 * (Z128.1 211 23)) + 2) 32 = true := by
        by_cases q9 : mjIn ((4 * (Z128.1 211 23)) + 2) 32 = true
        · exact q9
        · rw [if_neg q9] at h; cases h
      rw [if_pos hk129] at h
      refine pG_ias rfl (by rfl) hk129 (?_ : pG 231 145 [some (.ref 211), some (.int x1)] [] (mjTo (zSi Z128 226 (mjIx ((4 * (Z128.1 211 23)) + 2)) (Z128.1 211 17))) _)
      rw [mjLet] at h
      generalize zSi Z128 226 (mjIx ((4 * (Z128.1 211 23)) + 2)) (Z128.1 211 17) = Z130 at h ⊢
      refine pG_many 2 (pc1 := 149) (L1 := [some (.ref 211), some (.int x1)]) (st1 := [.long 111567739122533, .ref 211]) (M1 := mjTo Z130) rfl ?_
      cases hq131 : f208_isWord 111567739122533 Z130 with
      | none => rw [hq131] at h; cases h
      | some v132 =>
        rw [hq131, mjBp_some] at h
        refine pG_callV (k2 := 208) (As := [.ref 211, .long 111567739122533]) (rest := []) rfl rfl rfl rfl rfl (by rfl) (by decide) (f208_isWord_ok hq131) ?_
        rintro r9 M9 ⟨rfl, rfl⟩
        show pG 231 152 [some (.ref 211), some (.int x1)] [.int v132] (mjTo Z130) _
        by_cases hc134 : mjCmp .eq v132 0 = true
        · rw [if_pos hc134] at h
          refine pG_ift (t := 163) rfl rfl hc134 ?_
          exact f231_ruleLine_j163_ok x1 Z130 v9 Z9 h
        · rw [if_neg hc134] at h
          refine pG_iff (t := 163) rfl rfl hc134 ?_
          refine pG_many 1 (pc1 := 156) (L1 := [some (.ref 211), some (.int x1)]) (st1 := [.ref 211]) (M1 := mjTo Z130) rfl ?_
          cases hq141 : f205_goOn  Z130 with
          | none => rw [hq141] at h; cases h
          | some w =>
            obtain ⟨v142, Z143⟩ := w
            rw [hq141, mjBd_some] at h
            refine pG_callV (k2 := 205) (As := [.ref 211]) (rest := []) rfl rfl rfl rfl rfl (by rfl) (by decide) (f205_goOn_ok hq141) ?_
            rintro r9 M9 ⟨rfl, rfl⟩
            show pG 231 159 [some (.ref 211), some (.int x1)] [] (mjTo Z143) _
            refine pG_many 1 (pc1 := 160) (L1 := [some (.ref 211), some (.int x1)]) (st1 := [.ref 211]) (M1 := mjTo Z143) rfl ?_
            cases hq144 : f224_test  Z143 with
            | none => rw [hq144] at h; cases h
            | some w =>
              obtain ⟨v145, Z146⟩ := w
              rw [hq144, mjBd_some] at h
              refine pG_callV (k2 := 224) (As := [.ref 211]) (rest := []) rfl rfl rfl rfl rfl (by rfl) (by decide) (f224_test_ok hq144) ?_
              rintro r9 M9 ⟨rfl, rfl⟩
              show pG 231 163 [some (.ref 211), some (.int x1)] [] (mjTo Z146) _
              exact f231_ruleLine_j163_ok x1 Z146 v9 Z9 h
  · rw [if_neg hc121] at h
    refine pG_iff (t := 92) rfl rfl hc121 ?_
    simp only [Option.some.injEq, Prod.mk.injEq] at h
    obtain ⟨-, rfl⟩ := h
    exact pG_ret (r := none) rfl ⟨rfl, rfl⟩
def f231_ruleLine_j73 (x1 : Int32) (Z : mjZt) : Option (Unit × mjZt) :=
  mjBp (f207_isGood  Z) fun v118 =>
  if mjCmp .eq v118 0 = true then
    f231_ruleLine_j84 x1 Z
  else
    mjBd (f205_goOn  Z) fun _ Z149 =>
    f231_ruleLine_j84 x1 Z149
theorem f231_ruleLine_j73_ok (x1 : Int32) (Z : mjZt) (v9 : Unit) (Z9 : mjZt) (h : f231_ruleLine_j73 x1 Z = some (v9, Z9)) : pG 231 73 [some (.ref 211), some (.int x1)] [] (mjTo Z) (fun r M1 => r = none ∧ M1 = mjTo Z9) := by
  unfold f231_ruleLine_j73 at h
  refine pG_many 1 (pc1 := 74) (L1 := [some (.ref 211), some (.int x1)]) (st1 := [.ref 211]) (M1 := mjTo Z) rfl ?_
  cases hq117 : f207_isGood  Z with
  | none => rw [hq117] at h; cases h
  | some v118 =>
    rw [hq117, mjBp_some] at h
    refine pG_callV (k2 := 207) (As := [.ref 211]) (rest := []) rfl rfl rfl rfl rfl (by rfl) (by decide) (f207_isGood_ok hq117) ?_
    rintro r9 M9 ⟨rfl, rfl⟩
    show pG 231 77 [some (.ref 211), some (.int x1)] [.int v118] (mjTo Z) _
    by_cases hc120 : mjCmp .eq v118 0 = true
    · rw [if_pos hc120] at h
      refine pG_ift (t := 84) rfl rfl hc120 ?_
      exact f231_ruleLine_j84_ok x1 Z v9 Z9 h
    · rw [if_neg hc120] at h
      refine pG_iff (t := 84) rfl rfl hc120 ?_
      refine pG_many 1 (pc1 := 81) (L1 := [some (.ref 211), some (.int x1)]) (st1 := [.ref 211]) (M1 := mjTo Z) rfl ?_
      cases hq147 : f205_goOn  Z with
      | none => rw [hq147] at h; cases h
      | some w =>
        obtain ⟨v148, Z149⟩ := w
        rw [hq147, mjBd_some] at h
        refine pG_callV (k2 := 205) (As := [.ref 211]) (rest := []) rfl rfl rfl rfl rfl (by rfl) (by decide) (f205_goOn_ok hq147) ?_
        rintro r9 M9 ⟨rfl, rfl⟩
        show pG 231 84 [some (.ref 211), some (.int x1)] [] (mjTo Z149) _
        exact f231_ruleLine_j84_ok x1 Z149 v9 Z9 h
def f231_ruleLine_j25  (Z : mjZt) : Option (Unit × mjZt) :=
  if mjCmp .le (Z.1 211 9) 0 = true then
    mjBd (f225_freshName 228 (Z.1 211 23) Z) fun _ Z109 =>
    mjBd (f229_kindHere 5 Z109) fun v111 Z112 =>
    mjBp (f207_isGood  Z112) fun v114 =>
    if mjCmp .eq v114 0 = true then
      f231_ruleLine_j73 v111 Z112
    else
      mjBp (f208_isWord 2003330414 Z112) fun v151 =>
      if mjCmp .ne v151 0 = true then
        f231_ruleLine_j73 v111 Z112
      else
        mjBd (f206_wrong 2 Z112) fun _ Z156 =>
        f231_ruleLine_j73 v111 Z156
  else
    some ((), Z)
theorem f231_ruleLine_j25_ok  (d1 : Option Value) (Z : mjZt) (v9 : Unit) (Z9 : mjZt) (h : f231_ruleLine_j25  Z = some (v9, Z9)) : pG 231 25 [some (.ref 211), d1] [] (mjTo Z) (fun r M1 => r = none ∧ M1 = mjTo Z9) := by
  unfold f231_ruleLine_j25 at h
  refine pG_many 1 (pc1 := 26) (L1 := [some (.ref 211), d1]) (st1 := [.ref 211]) (M1 := mjTo Z) rfl ?_
  refine pG_getI (ci := 12) (f := 9) rfl rfl (Or.inl rfl) (by rfl) ?_
  by_cases hc106 : mjCmp .le (Z.1 211 9) 0 = true
  · rw [if_pos hc106] at h
    refine pG_ift (t := 33) rfl rfl hc106 ?_
    refine pG_many 2 (pc1 := 35) (L1 := [some (.ref 211), d1]) (st1 := [.ref 211, .ref 211]) (M1 := mjTo Z) rfl ?_
    refine pG_getR (ci := 12) (f := 38) (b := 228) rfl rfl rfl (by rfl) rfl ?_
    refine pG_many 1 (pc1 := 39) (L1 := [some (.ref 211), d1]) (st1 := [.ref 211, .ref 228, .ref 211]) (M1 := mjTo Z) rfl ?_
    refine pG_getI (ci := 12) (f := 23) rfl rfl (Or.inl rfl) (by rfl) ?_
    cases hq107 : f225_freshName 228 (Z.1 211 23) Z with
    | none => rw [hq107] at h; cases h
    | some w =>
      obtain ⟨v108, Z109⟩ := w
      rw [hq107, mjBd_some] at h
      refine pG_callV (k2 := 225) (As := [.ref 211, .ref 228, .int (Z.1 211 23)]) (rest := []) rfl rfl rfl rfl rfl (by rfl) (by decide) (f225_freshName_ok hq107) ?_
      rintro r9 M9 ⟨rfl, rfl⟩
      show pG 231 45 [some (.ref 211), d1] [] (mjTo Z109) _
      refine pG_many 2 (pc1 := 47) (L1 := [some (.ref 211), d1]) (st1 := [.int 5, .ref 211]) (M1 := mjTo Z109) rfl ?_
      cases hq110 : f229_kindHere 5 Z109 with
      | none => rw [hq110] at h; cases h
      | some w =>
        obtain ⟨v111, Z112⟩ := w
        rw [hq110, mjBd_some] at h
        refine pG_callV (k2 := 229) (As := [.ref 211, .int 5]) (rest := []) rfl rfl rfl rfl rfl (by rfl) (by decide) (f229_kindHere_ok hq110) ?_
        rintro r9 M9 ⟨rfl, rfl⟩
        show pG 231 50 [some (.ref 211), d1] [.int v111] (mjTo Z112) _
        refine pG_many 2 (pc1 := 52) (L1 := [some (.ref 211), some (.int v111)]) (st1 := [.ref 211]) (M1 := mjTo Z112) rfl ?_
        cases hq113 : f207_isGood  Z112 with
        | none => rw [hq113] at h; cases h
        | some v114 =>
          rw [hq113, mjBp_some] at h
          refine pG_callV (k2 := 207) (As := [.ref 211]) (rest := []) rfl rfl rfl rfl rfl (by rfl) (by decide) (f207_isGood_ok hq113) ?_
          rintro r9 M9 ⟨rfl, rfl⟩
          show pG 231 55 [some (.ref 211), some (.int v111)] [.int v114] (mjTo Z112) _
          by_cases hc116 : mjCmp .eq v114 0 = true
          · rw [if_pos hc116] at h
            refine pG_ift (t := 73) rfl rfl hc116 ?_
            exact f231_ruleLine_j73_ok v111 Z112 v9 Z9 h
          · rw [if_neg hc116] at h
            refine pG_iff (t := 73) rfl rfl hc116 ?_
            refine pG_many 2 (pc1 := 62) (L1 := [some (.ref 211), some (.int v111)]) (st1 := [.long 2003330414, .ref 211]) (M1 := mjTo Z112) rfl ?_
            cases hq150 : f208_isWord 2003330414 Z112 with
            | none => rw [hq150] at h; cases h
            | some v151 =>
              rw [hq150, mjBp_some] at h
              refine pG_callV (k2 := 208) (As := [.ref 211, .long 2003330414]) (rest := []) rfl rfl rfl rfl rfl (by rfl) (by decide) (f208_isWord_ok hq150) ?_
              rintro r9 M9 ⟨rfl, rfl⟩
              show pG 231 65 [some (.ref 211), some (.int v111)] [.int v151] (mjTo Z112) _
              by_cases hc153 : mjCmp .ne v151 0 = true
              · rw [if_pos hc153] at h
                refine pG_ift (t := 73) rfl rfl hc153 ?_
                exact f231_ruleLine_j73_ok v111 Z112 v9 Z9 h
              · rw [if_neg hc153] at h
                refine pG_iff (t := 73) rfl rfl hc153 ?_
                refine pG_many 2 (pc1 := 70) (L1 := [some (.ref 211), some (.int v111)]) (st1 := [.int 2, .ref 211]) (M1 := mjTo Z112) rfl ?_
                cases hq154 : f206_wrong 2 Z112 with
                | none => rw [hq154] at h; cases h
                | some w =>
                  obtain ⟨v155, Z156⟩ := w
                  rw [hq154, mjBd_some] at h
                  refine pG_callV (k2 := 206) (As := [.ref 211, .int 2]) (rest := []) rfl rfl rfl rfl rfl (by rfl) (by decide) (f206_wrong_ok hq154) ?_
                  rintro r9 M9 ⟨rfl, rfl⟩
                  show pG 231 73 [some (.ref 211), some (.int v111)] [] (mjTo Z156) _
                  exact f231_ruleLine_j73_ok v111 Z156 v9 Z9 h
  · rw [if_neg hc106] at h
    refine pG_iff (t := 33) rfl rfl hc106 ?_
    simp only [Option.some.injEq, Prod.mk.injEq] at h
    obtain ⟨-, rfl⟩ := h
    exact pG_ret (r := none) rfl ⟨rfl, rfl⟩
def f231_ruleLine_j14  (Z : mjZt) : Option (Unit × mjZt) :=
  mjBp (f207_isGood  Z) fun v103 =>
  if mjCmp .eq v103 0 = true then
    f231_ruleLine_j25  Z
  else
    mjBd (f205_goOn  Z) fun _ Z159 =>
    f231_ruleLine_j25  Z159
theorem f231_ruleLine_j14_ok  (d1 : Option Value) (Z : mjZt) (v9 : Unit) (Z9 : mjZt) (h : f231_ruleLine_j14  Z = some (v9, Z9)) : pG 231 14 [some (.ref 211), d1] [] (mjTo Z) (fun r M1 => r = none ∧ M1 = mjTo Z9) := by
  unfold f231_ruleLine_j14 at h
  refine pG_many 1 (pc1 := 15) (L1 := [some (.ref 211), d1]) (st1 := [.ref 211]) (M1 := mjTo Z) rfl ?_
  cases hq102 : f207_isGood  Z with
  | none => rw [hq102] at h; cases h
  | some v103 =>
    rw [hq102, mjBp_some] at h
    refine pG_callV (k2 := 207) (As := [.ref 211]) (rest := []) rfl rfl rfl rfl rfl (by rfl) (by decide) (f207_isGood_ok hq102) ?_
    rintro r9 M9 ⟨rfl, rfl⟩
    show pG 231 18 [some (.ref 211), d1] [.int v103] (mjTo Z) _
    by_cases hc105 : mjCmp .eq v103 0 = true
    · rw [if_pos hc105] at h
      refine pG_ift (t := 25) rfl rfl hc105 ?_
      exact f231_ruleLine_j25_ok d1 Z v9 Z9 h
    · rw [if_neg hc105] at h
      refine pG_iff (t := 25) rfl rfl hc105 ?_
      refine pG_many 1 (pc1 := 22) (L1 := [some (.ref 211), d1]) (st1 := [.ref 211]) (M1 := mjTo Z) rfl ?_
      cases hq157 : f205_goOn  Z with
      | none => rw [hq157] at h; cases h
      | some w =>
        obtain ⟨v158, Z159⟩ := w
        rw [hq157, mjBd_some] at h
        refine pG_callV (k2 := 205) (As := [.ref 211]) (rest := []) rfl rfl rfl rfl rfl (by rfl) (by decide) (f205_goOn_ok hq157) ?_
        rintro r9 M9 ⟨rfl, rfl⟩
        show pG 231 25 [some (.ref 211), d1] [] (mjTo Z159) _
        exact f231_ruleLine_j25_ok d1 Z159 v9 Z9 h
def f231_ruleLine  (Z : mjZt) : Option (Unit × mjZt) :=
  if mjCmp .ne (Z.1 211 23) 8 = true then
    f231_ruleLine_j14  Z
  else
    mjBd (f206_wrong 5 Z) fun _ Z162 =>
    f231_ruleLine_j14  Z162
theorem f231_ruleLine_ok  {Z : mjZt} {v9 : Unit} {Z9 : mjZt} (h : f231_ruleLine  Z = some (v9, Z9)) : pG 231 0 (mjEnt [.ref 211] (mjML 231)) [] (mjTo Z) (fun r M1 => r = none ∧ M1 = mjTo Z9) := by
  unfold f231_ruleLine at h
  show pG 231 0 [some (.ref 211), none] [] (mjTo Z) _
  refine pG_many 1 (pc1 := 1) (L1 := [some (.ref 211), none]) (st1 := [.ref 211]) (M1 := mjTo Z) rfl ?_
  refine pG_getI (ci := 12) (f := 23) rfl rfl (Or.inl rfl) (by rfl) ?_
  refine pG_many 1 (pc1 := 6) (L1 := [some (.ref 211), none]) (st1 := [.int 8, .int (Z.1 211 23)]) (M1 := mjTo Z) rfl ?_
  by_cases hc101 : mjCmp .ne (Z.1 211 23) 8 = true
  · rw [if_pos hc101] at h
    refine pG_cmt (t := 14) rfl rfl hc101 ?_
    exact f231_ruleLine_j14_ok none Z v9 Z9 h
  · rw [if_neg hc101] at h
    refine pG_cmf (t := 14) rfl rfl hc101 ?_
    refine pG_many 2 (pc1 := 11) (L1 := [some (.ref 211), none]) (st1 := [.int 5, .ref 211]) (M1 := mjTo Z) rfl ?_
    cases hq160 : f206_wrong 5 Z with
    | none => rw [hq160] at h; cases h
    | some w =>
      obtain ⟨v161, Z162⟩ := w
      rw [hq160, mjBd_some] at h
      refine pG_callV (k2 := 206) (As := [.ref 211, .int 5]) (rest := []) rfl rfl rfl rfl rfl (by rfl) (by decide) (f206_wrong_ok hq160) ?_
      rintro r9 M9 ⟨rfl, rfl⟩
      show pG 231 14 [some (.ref 211), none] [] (mjTo Z162) _
      exact f231_ruleLine_j14_ok none Z162 v9 Z9 h
def f232_once_j24 (x1 : Int32) (Z : mjZt) : Option (Unit × mjZt) :=
  mjLet (zSi Z 211 24 ((Z.1 211 24) ||| ((1 : Int32) <<< ((x1 : Int32) &&& 31)))) fun Z105 =>
  mjBp (f207_isGood  Z105) fun v107 =>
  if mjCmp .eq v107 0 = true then
    some ((), Z105)
  else
    mjBd (f205_goOn  Z105) fun _ Z112 =>
    some ((), Z112)
theorem f232_once_j24_ok (x1 : Int32) (Z : mjZt) (v9 : Unit) (Z9 : mjZt) (h : f232_once_j24 x1 Z = some (v9, Z9)) : pG 232 24 [some (.ref 211), some (.int x1)] [] (mjTo Z) (fun r M1 => r = none ∧ M1 = mjTo Z9) := by
  unfold f232_once_j24 at h
  refine pG_many 2 (pc1 := 26) (L1 := [some (.ref 211), some (.int x1)]) (st1 := [.ref 211, .ref 211]) (M1 := mjTo Z) rfl ?_
  refine pG_getI (ci := 12) (f := 24) rfl rfl (Or.inl rfl) (by rfl) ?_
  refine pG_many 4 (pc1 := 33) (L1 := [some (.ref 211), some (.int x1)]) (st1 := [.int ((Z.1 211 24) ||| ((1 : Int32) <<< ((x1 : Int32) &&& 31))), .ref 211]) (M1 := mjTo Z) rfl ?_
  refine pG_putI (ci := 12) (f := 24) rfl rfl rfl rfl (by rfl) ?_
  rw [mjLet] at h
  generalize zSi Z 211 24 ((Z.1 211 24) ||| ((1 : Int32) <<< ((x1 : Int32) &&& 31))) = Z105 at h ⊢
  refine pG_many 1 (pc1 := 37) (L1 := [some (.ref 211), some (.int x1)]) (st1 := [.ref 211]) (M1 := mjTo Z105) rfl ?_
  cases hq106 : f207_isGood  Z105 with
  | none => rw [hq106] at h; cases h
  | some v107 =>
    rw [hq106, mjBp_some] at h
    refine pG_callV (k2 := 207) (As := [.ref 211]) (rest := []) rfl rfl rfl rfl rfl (by rfl) (by decide) (f207_isGood_ok hq106) ?_
    rintro r9 M9 ⟨rfl, rfl⟩
    show pG 232 40 [some (.ref 211), some (.int x1)] [.int v107] (mjTo Z105) _
    by_cases hc109 : mjCmp .eq v107 0 = true
    · rw [if_pos hc109] at h
      refine pG_ift (t := 47) rfl rfl hc109 ?_
      simp only [Option.some.injEq, Prod.mk.injEq] at h
      obtain ⟨-, rfl⟩ := h
      exact pG_ret (r := none) rfl ⟨rfl, rfl⟩
    · rw [if_neg hc109] at h
      refine pG_iff (t := 47) rfl rfl hc109 ?_
      refine pG_many 1 (pc1 := 44) (L1 := [some (.ref 211), some (.int x1)]) (st1 := [.ref 211]) (M1 := mjTo Z105) rfl ?_
      cases hq110 : f205_goOn  Z105 with
      | none => rw [hq110] at h; cases h
      | some w =>
        obtain ⟨v111, Z112⟩ := w
        rw [hq110, mjBd_some] at h
        refine pG_callV (k2 := 205) (As := [.ref 211]) (rest := []) rfl rfl rfl rfl rfl (by rfl) (by decide) (f205_goOn_ok hq110) ?_
        rintro r9 M9 ⟨rfl, rfl⟩
        show pG 232 47 [some (.ref 211), some (.int x1)] [] (mjTo Z112) _
        simp only [Option.some.injEq, Prod.mk.injEq] at h
        obtain ⟨-, rfl⟩ := h
        exact pG_ret (r := none) rfl ⟨rfl, rfl⟩
def f232_once (p0 : Int32) (Z : mjZt) : Option (Unit × mjZt) :=
  mjBp (f207_isGood  Z) fun v102 =>
  if mjCmp .eq v102 0 = true then
    f232_once_j24 p0 Z
  else
    mjBp (f197_holds1 (Z.1 211 24) p0 Z) fun v114 =>
    if mjCmp .eq v114 0 = true then
      f232_once_j24 p0 Z
    else
      mjBd (f206_wrong 6 Z) fun _ Z119 =>
      f232_once_j24 p0 Z119
theorem f232_once_ok {p0 : Int32} {Z : mjZt} {v9 : Unit} {Z9 : mjZt} (h : f232_once p0 Z = some (v9, Z9)) : pG 232 0 (mjEnt [.ref 211, .int p0] (mjML 232)) [] (mjTo Z) (fun r M1 => r = none ∧ M1 = mjTo Z9) := by
  unfold f232_once at h
  show pG 232 0 [some (.ref 211), some (.int p0)] [] (mjTo Z) _
  refine pG_many 1 (pc1 := 1) (L1 := [some (.ref 211), some (.int p0)]) (st1 := [.ref 211]) (M1 := mjTo Z) rfl ?_
  cases hq101 : f207_isGood  Z with
  | none => rw [hq101] at h; cases h
  | some v102 =>
    rw [hq101, mjBp_some] at h
    refine pG_callV (k2 := 207) (As := [.ref 211]) (rest := []) rfl rfl rfl rfl rfl (by rfl) (by decide) (f207_isGood_ok hq101) ?_
    rintro r9 M9 ⟨rfl, rfl⟩
    show pG 232 4 [some (.ref 211), some (.int p0)] [.int v102] (mjTo Z) _
    by_cases hc104 : mjCmp .eq v102 0 = true
    · rw [if_pos hc104] at h
      refine pG_ift (t := 24) rfl rfl hc104 ?_
      exact f232_once_j24_ok p0 Z v9 Z9 h
    · rw [if_neg hc104] at h
      refine pG_iff (t := 24) rfl rfl hc104 ?_
      refine pG_many 1 (pc1 := 8) (L1 := [some (.ref 211), some (.int p0)]) (st1 := [.ref 211]) (M1 := mjTo Z) rfl ?_
      refine pG_getI (ci := 12) (f := 24) rfl rfl (Or.inl rfl) (by rfl) ?_
      refine pG_many 1 (pc1 := 12) (L1 := [some (.ref 211), some (.int p0)]) (st1 := [.int p0, .int (Z.1 211 24)]) (M1 := mjTo Z) rfl ?_
      cases hq113 : f197_holds1 (Z.1 211 24) p0 Z with
      | none => rw [hq113] at h; cases h
      | some v114 =>
        rw [hq113, mjBp_some] at h
        refine pG_call (k2 := 197) (As := [.int (Z.1 211 24), .int p0]) (rest := []) rfl (by decide) (f197_holds1_ok hq113) ?_
        rintro r9 M9 ⟨rfl, rfl⟩
        show pG 232 15 [some (.ref 211), some (.int p0)] [.int v114] (mjTo Z) _
        by_cases hc116 : mjCmp .eq v114 0 = true
        · rw [if_pos hc116] at h
          refine pG_ift (t := 24) rfl rfl hc116 ?_
          exact f232_once_j24_ok p0 Z v9 Z9 h
        · rw [if_neg hc116] at h
          refine pG_iff (t := 24) rfl rfl hc116 ?_
          refine pG_many 2 (pc1 := 21) (L1 := [some (.ref 211), some (.int p0)]) (st1 := [.int 6, .ref 211]) (M1 := mjTo Z) rfl ?_
          cases hq117 : f206_wrong 6 Z with
          | none => rw [hq117] at h; cases h
          | some w =>
            obtain ⟨v118, Z119⟩ := w
            rw [hq117, mjBd_some] at h
            refine pG_callV (k2 := 206) (As := [.ref 211, .int 6]) (rest := []) rfl rfl rfl rfl rfl (by rfl) (by decide) (f206_wrong_ok hq117) ?_
            rintro r9 M9 ⟨rfl, rfl⟩
            show pG 232 24 [some (.ref 211), some (.int p0)] [] (mjTo Z119) _
            exact f232_once_j24_ok p0 Z119 v9 Z9 h
def f233_line_j131  (Z : mjZt) : Option (Unit × mjZt) :=
  mjBd (f212_must 59 Z) fun _ Z130 =>
  mjLet (zSi Z130 211 27 ((Z130.1 211 27) + 1)) fun Z131 =>
  some ((), Z131)
theorem f233_line_j131_ok  (Z : mjZt) (v9 : Unit) (Z9 : mjZt) (h : f233_line_j131  Z = some (v9, Z9)) : pG 233 131 [some (.ref 211)] [] (mjTo Z) (fun r M1 => r = none ∧ M1 = mjTo Z9) := by
  unfold f233_line_j131 at h
  refine pG_many 2 (pc1 := 134) (L1 := [some (.ref 211)]) (st1 := [.int 59, .ref 211]) (M1 := mjTo Z) rfl ?_
  cases hq128 : f212_must 59 Z with
  | none => rw [hq128] at h; cases h
  | some w =>
    obtain ⟨v129, Z130⟩ := w
    rw [hq128, mjBd_some] at h
    refine pG_callV (k2 := 212) (As := [.ref 211, .int 59]) (rest := []) rfl rfl rfl rfl rfl (by rfl) (by decide) (f212_must_ok hq128) ?_
    rintro r9 M9 ⟨rfl, rfl⟩
    show pG 233 137 [some (.ref 211)] [] (mjTo Z130) _
    refine pG_many 2 (pc1 := 139) (L1 := [some (.ref 211)]) (st1 := [.ref 211, .ref 211]) (M1 := mjTo Z130) rfl ?_
    refine pG_getI (ci := 12) (f := 27) rfl rfl (Or.inl rfl) (by rfl) ?_
    refine pG_many 2 (pc1 := 144) (L1 := [some (.ref 211)]) (st1 := [.int ((Z130.1 211 27) + 1), .ref 211]) (M1 := mjTo Z130) rfl ?_
    refine pG_putI (ci := 12) (f := 27) rfl rfl rfl rfl (by rfl) ?_
    rw [mjLet] at h
    generalize zSi Z130 211 27 ((Z130.1 211 27) + 1) = Z131 at h ⊢
    simp only [Option.some.injEq, Prod.mk.injEq] at h
    obtain ⟨-, rfl⟩ := h
    exact pG_ret (r := none) rfl ⟨rfl, rfl⟩
def f233_line  (Z : mjZt) : Option (Unit × mjZt) :=
  mjBp (f208_isWord 1952801133 Z) fun v102 =>
  if mjCmp .eq v102 0 = true then
    mjBp (f208_isWord 1920298611 Z) fun v106 =>
    if mjCmp .eq v106 0 = true then
      mjBp (f208_isWord 6382452 Z) fun v110 =>
      if mjCmp .eq v110 0 = true then
        mjBp (f208_isWord 1920298085 Z) fun v114 =>
        if mjCmp .eq v114 0 = true then
          mjBp (f208_isWord 32765938003961704 Z) fun v118 =>
          if mjCmp .eq v118 0 = true then
            mjBp (f208_isWord 131294808271214 Z) fun v122 =>
            if mjCmp .eq v122 0 = true then
              mjBd (f206_wrong 2 Z) fun _ Z127 =>
              f233_line_j131  Z127
            else
              mjBd (f232_once 1 Z) fun _ Z134 =>
              mjBd (f213_number 0 99 Z134) fun v136 Z137 =>
              mjLet (zSi Z137 211 26 v136) fun Z138 =>
              f233_line_j131  Z138
          else
            mjBd (f232_once 0 Z) fun _ Z141 =>
            mjBd (f213_number 1 6 Z141) fun v143 Z144 =>
            mjLet (zSi Z144 211 25 v143) fun Z145 =>
            f233_line_j131  Z145
        else
          mjBd (f231_ruleLine  Z) fun _ Z148 =>
          f233_line_j131  Z148
      else
        mjBd (f230_actLine  Z) fun _ Z151 =>
        f233_line_j131  Z151
    else
      mjBd (f228_runsLine  Z) fun _ Z154 =>
      f233_line_j131  Z154
  else
    mjBd (f227_teamLine  Z) fun _ Z157 =>
    f233_line_j131  Z157
theorem f233_line_ok  {Z : mjZt} {v9 : Unit} {Z9 : mjZt} (h : f233_line  Z = some (v9, Z9)) : pG 233 0 (mjEnt [.ref 211] (mjML 233)) [] (mjTo Z) (fun r M1 => r = none ∧ M1 = mjTo Z9) := by
  unfold f233_line at h
  show pG 233 0 [some (.ref 211)] [] (mjTo Z) _
  refine pG_many 2 (pc1 := 4) (L1 := [some (.ref 211)]) (st1 := [.long 1952801133, .ref 211]) (M1 := mjTo Z) rfl ?_
  cases hq101 : f208_isWord 1952801133 Z with
  | none => rw [hq101] at h; cases h
  | some v102 =>
    rw [hq101, mjBp_some] at h
    refine pG_callV (k2 := 208) (As := [.ref 211, .long 1952801133]) (rest := []) rfl rfl rfl rfl rfl (by rfl) (by decide) (f208_isWord_ok hq101) ?_
    rintro r9 M9 ⟨rfl, rfl⟩
    show pG 233 7 [some (.ref 211)] [.int v102] (mjTo Z) _
    by_cases hc104 : mjCmp .eq v102 0 = true
    · rw [if_pos hc104] at h
      refine pG_ift (t := 17) rfl rfl hc104 ?_
      refine pG_many 2 (pc1 := 21) (L1 := [some (.ref 211)]) (st1 := [.long 1920298611, .ref 211]) (M1 := mjTo Z) rfl ?_
      cases hq105 : f208_isWord 1920298611 Z with
      | none => rw [hq105] at h; cases h
      | some v106 =>
        rw [hq105, mjBp_some] at h
        refine pG_callV (k2 := 208) (As := [.ref 211, .long 1920298611]) (rest := []) rfl rfl rfl rfl rfl (by rfl) (by decide) (f208_isWord_ok hq105) ?_
        rintro r9 M9 ⟨rfl, rfl⟩
        show pG 233 24 [some (.ref 211)] [.int v106] (mjTo Z) _
        by_cases hc108 : mjCmp .eq v106 0 = true
        · rw [if_pos hc108] at h
          refine pG_ift (t := 34) rfl rfl hc108 ?_
          refine pG_many 2 (pc1 := 38) (L1 := [some (.ref 211)]) (st1 := [.long 6382452, .ref 211]) (M1 := mjTo Z) rfl ?_
          cases hq109 : f208_isWord 6382452 Z with
          | none => rw [hq109] at h; cases h
          | some v110 =>
            rw [hq109, mjBp_some] at h
            refine pG_callV (k2 := 208) (As := [.ref 211, .long 6382452]) (rest := []) rfl rfl rfl rfl rfl (by rfl) (by decide) (f208_isWord_ok hq109) ?_
            rintro r9 M9 ⟨rfl, rfl⟩
            show pG 233 41 [some (.ref 211)] [.int v110] (mjTo Z) _
            by_cases hc112 : mjCmp .eq v110 0 = true
            · rw [if_pos hc112] at h
              refine pG_ift (t := 51) rfl rfl hc112 ?_
              refine pG_many 2 (pc1 := 55) (L1 := [some (.ref 211)]) (st1 := [.long 1920298085, .ref 211]) (M1 := mjTo Z) rfl ?_
              cases hq113 : f208_isWord 1920298085 Z with
              | none => rw [hq113] at h; cases h
              | some v114 =>
                rw [hq113, mjBp_some] at h
                refine pG_callV (k2 := 208) (As := [.ref 211, .long 1920298085]) (rest := []) rfl rfl rfl rfl rfl (by rfl) (by decide) (f208_isWord_ok hq113) ?_
                rintro r9 M9 ⟨rfl, rfl⟩
                show pG 233 58 [some (.ref 211)] [.int v114] (mjTo Z) _
                by_cases hc116 : mjCmp .eq v114 0 = true
                · rw [if_pos hc116] at h
                  refine pG_ift (t := 68) rfl rfl hc116 ?_
                  refine pG_many 2 (pc1 := 72) (L1 := [some (.ref 211)]) (st1 := [.long 32765938003961704, .ref 211]) (M1 := mjTo Z) rfl ?_
                  cases hq117 : f208_isWord 32765938003961704 Z with
                  | none => rw [hq117] at h; cases h
                  | some v118 =>
                    rw [hq117, mjBp_some] at h
                    refine pG_callV (k2 := 208) (As := [.ref 211, .long 32765938003961704]) (rest := []) rfl rfl rfl rfl rfl (by rfl) (by decide) (f208_isWord_ok hq117) ?_
                    rintro r9 M9 ⟨rfl, rfl⟩
                    show pG 233 75 [some (.ref 211)] [.int v118] (mjTo Z) _
                    by_cases hc120 : mjCmp .eq v118 0 = true
                    · rw [if_pos hc120] at h
                      refine pG_ift (t := 97) rfl rfl hc120 ?_
                      refine pG_many 2 (pc1 := 101) (L1 := [some (.ref 211)]) (st1 := [.long 131294808271214, .ref 211]) (M1 := mjTo Z) rfl ?_
                      cases hq121 : f208_isWord 131294808271214 Z with
                      | none => rw [hq121] at h; cases h
                      | some v122 =>
                        rw [hq121, mjBp_some] at h
                        refine pG_callV (k2 := 208) (As := [.ref 211, .long 131294808271214]) (rest := []) rfl rfl rfl rfl rfl (by rfl) (by decide) (f208_isWord_ok hq121) ?_
                        rintro r9 M9 ⟨rfl, rfl⟩
                        show pG 233 104 [some (.ref 211)] [.int v122] (mjTo Z) _
                        by_cases hc124 : mjCmp .eq v122 0 = true
                        · rw [if_pos hc124] at h
                          refine pG_ift (t := 126) rfl rfl hc124 ?_
                          refine pG_many 2 (pc1 := 128) (L1 := [some (.ref 211)]) (st1 := [.int 2, .ref 211]) (M1 := mjTo Z) rfl ?_
                          cases hq125 : f206_wrong 2 Z with
                          | none => rw [hq125] at h; cases h
                          | some w =>
                            obtain ⟨v126, Z127⟩ := w
                            rw [hq125, mjBd_some] at h
                            refine pG_callV (k2 := 206) (As := [.ref 211, .int 2]) (rest := []) rfl rfl rfl rfl rfl (by rfl) (by decide) (f206_wrong_ok hq125) ?_
                            rintro r9 M9 ⟨rfl, rfl⟩
                            show pG 233 131 [some (.ref 211)] [] (mjTo Z127) _
                            exact f233_line_j131_ok Z127 v9 Z9 h
                        · rw [if_neg hc124] at h
                          refine pG_iff (t := 126) rfl rfl hc124 ?_
                          refine pG_many 2 (pc1 := 109) (L1 := [some (.ref 211)]) (st1 := [.int 1, .ref 211]) (M1 := mjTo Z) rfl ?_
                          cases hq132 : f232_once 1 Z with
                          | none => rw [hq132] at h; cases h
                          | some w =>
                            obtain ⟨v133, Z134⟩ := w
                            rw [hq132, mjBd_some] at h
                            refine pG_callV (k2 := 232) (As := [.ref 211, .int 1]) (rest := []) rfl rfl rfl rfl rfl (by rfl) (by decide) (f232_once_ok hq132) ?_
                            rintro r9 M9 ⟨rfl, rfl⟩
                            show pG 233 112 [some (.ref 211)] [] (mjTo Z134) _
                            refine pG_many 4 (pc1 := 117) (L1 := [some (.ref 211)]) (st1 := [.int 99, .int 0, .ref 211, .ref 211]) (M1 := mjTo Z134) rfl ?_
                            cases hq135 : f213_number 0 99 Z134 with
                            | none => rw [hq135] at h; cases h
                            | some w =>
                              obtain ⟨v136, Z137⟩ := w
                              rw [hq135, mjBd_some] at h
                              refine pG_callV (k2 := 213) (As := [.ref 211, .int 0, .int 99]) (rest := [.ref 211]) rfl rfl rfl rfl rfl (by rfl) (by decide) (f213_number_ok hq135) ?_
                              rintro r9 M9 ⟨rfl, rfl⟩
                              show pG 233 120 [some (.ref 211)] [.int v136, .ref 211] (mjTo Z137) _
                              refine pG_putI (ci := 12) (f := 26) rfl rfl rfl rfl (by rfl) ?_
                              rw [mjLet] at h
                              generalize zSi Z137 211 26 v136 = Z138 at h ⊢
                              refine pG_many 1 (pc1 := 131) (L1 := [some (.ref 211)]) (st1 := []) (M1 := mjTo Z138) rfl ?_
                              exact f233_line_j131_ok Z138 v9 Z9 h
                    · rw [if_neg hc120] at h
                      refine pG_iff (t := 97) rfl rfl hc120 ?_
                      refine pG_many 2 (pc1 := 80) (L1 := [some (.ref 211)]) (st1 := [.int 0, .ref 211]) (M1 := mjTo Z) rfl ?_
                      cases hq139 : f232_once 0 Z with
                      | none => rw [hq139] at h; cases h
                      | some w =>
                        obtain ⟨v140, Z141⟩ := w
                        rw [hq139, mjBd_some] at h
                        refine pG_callV (k2 := 232) (As := [.ref 211, .int 0]) (rest := []) rfl rfl rfl rfl rfl (by rfl) (by decide) (f232_once_ok hq139) ?_
                        rintro r9 M9 ⟨rfl, rfl⟩
                        show pG 233 83 [some (.ref 211)] [] (mjTo Z141) _
                        refine pG_many 4 (pc1 := 88) (L1 := [some (.ref 211)]) (st1 := [.int 6, .int 1, .ref 211, .ref 211]) (M1 := mjTo Z141) rfl ?_
                        cases hq142 : f213_number 1 6 Z141 with
                        | none => rw [hq142] at h; cases h
                        | some w =>
                          obtain ⟨v143, Z144⟩ := w
                          rw [hq142, mjBd_some] at h
                          refine pG_callV (k2 := 213) (As := [.ref 211, .int 1, .int 6]) (rest := [.ref 211]) rfl rfl rfl rfl rfl (by rfl) (by decide) (f213_number_ok hq142) ?_
                          rintro r9 M9 ⟨rfl, rfl⟩
                          show pG 233 91 [some (.ref 211)] [.int v143, .ref 211] (mjTo Z144) _
                          refine pG_putI (ci := 12) (f := 25) rfl rfl rfl rfl (by rfl) ?_
                          rw [mjLet] at h
                          generalize zSi Z144 211 25 v143 = Z145 at h ⊢
                          refine pG_many 1 (pc1 := 131) (L1 := [some (.ref 211)]) (st1 := []) (M1 := mjTo Z145) rfl ?_
                          exact f233_line_j131_ok Z145 v9 Z9 h
                · rw [if_neg hc116] at h
                  refine pG_iff (t := 68) rfl rfl hc116 ?_
                  refine pG_many 1 (pc1 := 62) (L1 := [some (.ref 211)]) (st1 := [.ref 211]) (M1 := mjTo Z) rfl ?_
                  cases hq146 : f231_ruleLine  Z with
                  | none => rw [hq146] at h; cases h
                  | some w =>
                    obtain ⟨v147, Z148⟩ := w
                    rw [hq146, mjBd_some] at h
                    refine pG_callV (k2 := 231) (As := [.ref 211]) (rest := []) rfl rfl rfl rfl rfl (by rfl) (by decide) (f231_ruleLine_ok hq146) ?_
                    rintro r9 M9 ⟨rfl, rfl⟩
                    show pG 233 65 [some (.ref 211)] [] (mjTo Z148) _
                    refine pG_many 1 (pc1 := 131) (L1 := [some (.ref 211)]) (st1 := []) (M1 := mjTo Z148) rfl ?_
                    exact f233_line_j131_ok Z148 v9 Z9 h
            · rw [if_neg hc112] at h
              refine pG_iff (t := 51) rfl rfl hc112 ?_
              refine pG_many 1 (pc1 := 45) (L1 := [some (.ref 211)]) (st1 := [.ref 211]) (M1 := mjTo Z) rfl ?_
              cases hq149 : f230_actLine  Z with
              | none => rw [hq149] at h; cases h
              | some w =>
                obtain ⟨v150, Z151⟩ := w
                rw [hq149, mjBd_some] at h
                refine pG_callV (k2 := 230) (As := [.ref 211]) (rest := []) rfl rfl rfl rfl rfl (by rfl) (by decide) (f230_actLine_ok hq149) ?_
                rintro r9 M9 ⟨rfl, rfl⟩
                show pG 233 48 [some (.ref 211)] [] (mjTo Z151) _
                refine pG_many 1 (pc1 := 131) (L1 := [some (.ref 211)]) (st1 := []) (M1 := mjTo Z151) rfl ?_
                exact f233_line_j131_ok Z151 v9 Z9 h
        · rw [if_neg hc108] at h
          refine pG_iff (t := 34) rfl rfl hc108 ?_
          refine pG_many 1 (pc1 := 28) (L1 := [some (.ref 211)]) (st1 := [.ref 211]) (M1 := mjTo Z) rfl ?_
          cases hq152 : f228_runsLine  Z with
          | none => rw [hq152] at h; cases h
          | some w =>
            obtain ⟨v153, Z154⟩ := w
            rw [hq152, mjBd_some] at h
            refine pG_callV (k2 := 228) (As := [.ref 211]) (rest := []) rfl rfl rfl rfl rfl (by rfl) (by decide) (f228_runsLine_ok hq152) ?_
            rintro r9 M9 ⟨rfl, rfl⟩
            show pG 233 31 [some (.ref 211)] [] (mjTo Z154) _
            refine pG_many 1 (pc1 := 131) (L1 := [some (.ref 211)]) (st1 := []) (M1 := mjTo Z154) rfl ?_
            exact f233_line_j131_ok Z154 v9 Z9 h
    · rw [if_neg hc104] at h
      refine pG_iff (t := 17) rfl rfl hc104 ?_
      refine pG_many 1 (pc1 := 11) (L1 := [some (.ref 211)]) (st1 := [.ref 211]) (M1 := mjTo Z) rfl ?_
      cases hq155 : f227_teamLine  Z with
      | none => rw [hq155] at h; cases h
      | some w =>
        obtain ⟨v156, Z157⟩ := w
        rw [hq155, mjBd_some] at h
        refine pG_callV (k2 := 227) (As := [.ref 211]) (rest := []) rfl rfl rfl rfl rfl (by rfl) (by decide) (f227_teamLine_ok hq155) ?_
        rintro r9 M9 ⟨rfl, rfl⟩
        show pG 233 14 [some (.ref 211)] [] (mjTo Z157) _
        refine pG_many 1 (pc1 := 131) (L1 := [some (.ref 211)]) (st1 := []) (M1 := mjTo Z157) rfl ?_
        exact f233_line_j131_ok Z157 v9 Z9 h
