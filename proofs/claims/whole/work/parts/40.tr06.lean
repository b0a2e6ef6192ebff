def f125_readRule_j190 (x1 : Nat) (x2 : Int64) (x4 : Int32) (x5 : Int32) (Z : mjZt) : Option (Int32 × mjZt) :=
  if mjCmp .eq x5 0 = true then
    if mjIs x1 251 2 = true then
    mjBd (f29_addRule x1 x2 x4 Z) fun _ Z139 =>
    some (1, Z139)
    else none
  else
    mjBd (f114_fail x5 Z) fun v141 Z142 =>
    if v141 = 0 ∨ v141 = 1 then
    some (v141, Z142)
    else none
theorem f125_readRule_j190_ok (x1 : Nat) (x2 : Int64) (x4 : Int32) (x5 : Int32) (d3 : Option Value) (Z : mjZt) (v9 : Int32) (Z9 : mjZt) (h : f125_readRule_j190 x1 x2 x4 x5 Z = some (v9, Z9)) : pG 125 190 [some (.ref 182), some (.ref x1), some (.long x2), d3, some (.int x4), some (.int x5)] [] (mjTo Z) (fun r M1 => r = some (.int v9) ∧ M1 = mjTo Z9) := by
  unfold f125_readRule_j190 at h
  refine pG_many 1 (pc1 := 192) (L1 := [some (.ref 182), some (.ref x1), some (.long x2), d3, some (.int x4), some (.int x5)]) (st1 := [.int x5]) (M1 := mjTo Z) rfl ?_
  by_cases hc135 : mjCmp .eq x5 0 = true
  · rw [if_pos hc135] at h
    refine pG_ift (t := 202) rfl rfl hc135 ?_
    refine pG_many 3 (pc1 := 206) (L1 := [some (.ref 182), some (.ref x1), some (.long x2), d3, some (.int x4), some (.int x5)]) (st1 := [.int x4, .long x2, .ref x1]) (M1 := mjTo Z) rfl ?_
    have hk136 : mjIs x1 251 2 = true := by
      by_cases q9 : mjIs x1 251 2 = true
      · exact q9
      · rw [if_neg q9] at h; cases h
    rw [if_pos hk136] at h
    cases hq137 : f29_addRule x1 x2 x4 Z with
    | none => rw [hq137] at h; cases h
    | some w =>
      obtain ⟨v138, Z139⟩ := w
      rw [hq137, mjBd_some] at h
      refine pG_callV (k2 := 29) (As := [.ref x1, .long x2, .int x4]) (rest := []) rfl rfl rfl rfl rfl (mjRcv_is hk136 (by decide)) (by decide) (f29_addRule_ok hq137) ?_
      rintro r9 M9 ⟨rfl, rfl⟩
      show pG 125 209 [some (.ref 182), some (.ref x1), some (.long x2), d3, some (.int x4), some (.int x5)] [] (mjTo Z139) _
      refine pG_many 1 (pc1 := 210) (L1 := [some (.ref 182), some (.ref x1), some (.long x2), d3, some (.int x4), some (.int x5)]) (st1 := [.int 1]) (M1 := mjTo Z139) rfl ?_
      simp only [Option.some.injEq, Prod.mk.injEq] at h
      obtain ⟨rfl, rfl⟩ := h
      exact pG_ret (r := some (.int 1)) rfl ⟨rfl, rfl⟩
  · rw [if_neg hc135] at h
    refine pG_iff (t := 202) rfl rfl hc135 ?_
    refine pG_many 2 (pc1 := 198) (L1 := [some (.ref 182), some (.ref x1), some (.long x2), d3, some (.int x4), some (.int x5)]) (st1 := [.int x5, .ref 182]) (M1 := mjTo Z) rfl ?_
    cases hq140 : f114_fail x5 Z with
    | none => rw [hq140] at h; cases h
    | some w =>
      obtain ⟨v141, Z142⟩ := w
      rw [hq140, mjBd_some] at h
      refine pG_callV (k2 := 114) (As := [.ref 182, .int x5]) (rest := []) rfl rfl rfl rfl rfl (by rfl) (by decide) (f114_fail_ok hq140) ?_
      rintro r9 M9 ⟨rfl, rfl⟩
      show pG 125 201 [some (.ref 182), some (.ref x1), some (.long x2), d3, some (.int x4), some (.int x5)] [.int v141] (mjTo Z142) _
      have hk143 : v141 = 0 ∨ v141 = 1 := by
        by_cases q9 : v141 = 0 ∨ v141 = 1
        · exact q9
        · rw [if_neg q9] at h; cases h
      rw [if_pos hk143] at h
      simp only [Option.some.injEq, Prod.mk.injEq] at h
      obtain ⟨rfl, rfl⟩ := h
      exact pG_ret (r := some (.int v141)) (mjRt1_z rfl rfl hk143) ⟨rfl, rfl⟩
def f125_readRule (p0 : Nat) (Z : mjZt) : Option (Int32 × mjZt) :=
  if mjIs p0 251 2 = true then
  if mjCmp .lt (Z.1 p0 8) 8 = true then
    mjBd (f68_advance  Z) fun _ Z105 =>
    mjBp (f119_isName  Z105) fun v107 =>
    if mjCmp .ne v107 0 = true then
      mjBp (f26_isNameTaken p0 (Z105.2.1 183 6) Z105) fun v111 =>
      if mjCmp .eq v111 0 = true then
        mjBd (f68_advance  Z105) fun _ Z116 =>
        mjBp (f51_indexIn 1000003 Z116) fun v118 =>
        if mjCmp .ne v118 ((-1)) = true then
          mjBd (f68_advance  Z116) fun _ Z123 =>
          mjBd (f115_takeWord 1000004 0 Z123) fun v125 Z126 =>
          if mjCmp .ne v125 0 = true then
            mjBp (f76_condition (Z126.1 p0 8) 0 Z126) fun v129 =>
            mjBd (f69_read (p0 + 1) v129 Z126) fun v132 Z133 =>
            if mjCmp .ne v132 0 = true then
              f125_readRule_j190 p0 (Z105.2.1 183 6) v118 v132 Z133
            else
              mjBp (f51_indexIn 1000004 Z133) fun v145 =>
              if mjCmp .ne v145 1 = true then
                f125_readRule_j190 p0 (Z105.2.1 183 6) v118 v132 Z133
              else
                mjBd (f68_advance  Z133) fun _ Z150 =>
                mjBp (f76_condition (Z150.1 p0 8) 1 Z150) fun v152 =>
                mjBd (f69_read (p0 + 1) v152 Z150) fun v155 Z156 =>
                f125_readRule_j190 p0 (Z105.2.1 183 6) v118 v155 Z156
          else
            some (0, Z126)
        else
          mjBd (f114_fail 2 Z116) fun v158 Z159 =>
          if v158 = 0 ∨ v158 = 1 then
          some (v158, Z159)
          else none
      else
        mjBd (f114_fail 3 Z105) fun v162 Z163 =>
        if v162 = 0 ∨ v162 = 1 then
        some (v162, Z163)
        else none
    else
      mjBd (f114_fail 2 Z105) fun v166 Z167 =>
      if v166 = 0 ∨ v166 = 1 then
      some (v166, Z167)
      else none
  else
    mjBd (f114_fail 5 Z) fun v170 Z171 =>
    if v170 = 0 ∨ v170 = 1 then
    some (v170, Z171)
    else none
  else none
theorem f125_readRule_ok {p0 : Nat} {Z : mjZt} {v9 : Int32} {Z9 : mjZt} (h : f125_readRule p0 Z = some (v9, Z9)) : pG 125 0 (mjEnt [.ref 182, .ref p0] (mjML 125)) [] (mjTo Z) (fun r M1 => r = some (.int v9) ∧ M1 = mjTo Z9) := by
  unfold f125_readRule at h
  show pG 125 0 [some (.ref 182), some (.ref p0), none, none, none, none] [] (mjTo Z) _
  refine pG_many 1 (pc1 := 1) (L1 := [some (.ref 182), some (.ref p0), none, none, none, none]) (st1 := [.ref p0]) (M1 := mjTo Z) rfl ?_
  have hk101 : mjIs p0 251 2 = true := by
    by_cases q9 : mjIs p0 251 2 = true
    · exact q9
    · rw [if_neg q9] at h; cases h
  rw [if_pos hk101] at h
  refine pG_getI (ci := 2) (f := 8) rfl rfl (Or.inl rfl) hk101 ?_
  refine pG_many 1 (pc1 := 6) (L1 := [some (.ref 182), some (.ref p0), none, none, none, none]) (st1 := [.int 8, .int (Z.1 p0 8)]) (M1 := mjTo Z) rfl ?_
  by_cases hc102 : mjCmp .lt (Z.1 p0 8) 8 = true
  · rw [if_pos hc102] at h
    refine pG_cmt (t := 15) rfl rfl hc102 ?_
    refine pG_many 1 (pc1 := 16) (L1 := [some (.ref 182), some (.ref p0), none, none, none, none]) (st1 := [.ref 182]) (M1 := mjTo Z) rfl ?_
    refine pG_getR (ci := 6) (f := 0) (b := 183) rfl rfl rfl (by rfl) rfl ?_
    cases hq103 : f68_advance  Z with
    | none => rw [hq103] at h; cases h
    | some w =>
      obtain ⟨v104, Z105⟩ := w
      rw [hq103, mjBd_some] at h
      refine pG_callV (k2 := 68) (As := [.ref 183]) (rest := []) rfl rfl rfl rfl rfl (by rfl) (by decide) (f68_advance_ok hq103) ?_
      rintro r9 M9 ⟨rfl, rfl⟩
      show pG 125 22 [some (.ref 182), some (.ref p0), none, none, none, none] [] (mjTo Z105) _
      refine pG_many 1 (pc1 := 23) (L1 := [some (.ref 182), some (.ref p0), none, none, none, none]) (st1 := [.ref 182]) (M1 := mjTo Z105) rfl ?_
      refine pG_getR (ci := 6) (f := 0) (b := 183) rfl rfl rfl (by rfl) rfl ?_
      cases hq106 : f119_isName  Z105 with
      | none => rw [hq106] at h; cases h
      | some v107 =>
        rw [hq106, mjBp_some] at h
        refine pG_callV (k2 := 119) (As := [.ref 183]) (rest := []) rfl rfl rfl rfl rfl (by rfl) (by decide) (f119_isName_ok hq106) ?_
        rintro r9 M9 ⟨rfl, rfl⟩
        show pG 125 29 [some (.ref 182), some (.ref p0), none, none, none, none] [.int v107] (mjTo Z105) _
        by_cases hc109 : mjCmp .ne v107 0 = true
        · rw [if_pos hc109] at h
          refine pG_ift (t := 38) rfl rfl hc109 ?_
          refine pG_many 2 (pc1 := 40) (L1 := [some (.ref 182), some (.ref p0), none, none, none, none]) (st1 := [.ref 182, .ref p0]) (M1 := mjTo Z105) rfl ?_
          refine pG_getR (ci := 6) (f := 0) (b := 183) rfl rfl rfl (by rfl) rfl ?_
          refine pG_getL (ci := 9) (f := 6) rfl rfl rfl (by rfl) ?_
          cases hq110 : f26_isNameTaken p0 (Z105.2.1 183 6) Z105 with
          | none => rw [hq110] at h; cases h
          | some v111 =>
            rw [hq110, mjBp_some] at h
            refine pG_callV (k2 := 26) (As := [.ref p0, .long (Z105.2.1 183 6)]) (rest := []) rfl rfl rfl rfl rfl (mjRcv_is hk101 (by decide)) (by decide) (f26_isNameTaken_ok hq110) ?_
            rintro r9 M9 ⟨rfl, rfl⟩
            show pG 125 49 [some (.ref 182), some (.ref p0), none, none, none, none] [.int v111] (mjTo Z105) _
            by_cases hc113 : mjCmp .eq v111 0 = true
            · rw [if_pos hc113] at h
              refine pG_ift (t := 58) rfl rfl hc113 ?_
              refine pG_many 1 (pc1 := 59) (L1 := [some (.ref 182), some (.ref p0), none, none, none, none]) (st1 := [.ref 182]) (M1 := mjTo Z105) rfl ?_
              refine pG_getR (ci := 6) (f := 0) (b := 183) rfl rfl rfl (by rfl) rfl ?_
              refine pG_getL (ci := 9) (f := 6) rfl rfl rfl (by rfl) ?_
              refine pG_many 2 (pc1 := 67) (L1 := [some (.ref 182), some (.ref p0), some (.long (Z105.2.1 183 6)), none, none, none]) (st1 := [.ref 182]) (M1 := mjTo Z105) rfl ?_
              refine pG_getR (ci := 6) (f := 0) (b := 183) rfl rfl rfl (by rfl) rfl ?_
              cases hq114 : f68_advance  Z105 with
              | none => rw [hq114] at h; cases h
              | some w =>
                obtain ⟨v115, Z116⟩ := w
                rw [hq114, mjBd_some] at h
                refine pG_callV (k2 := 68) (As := [.ref 183]) (rest := []) rfl rfl rfl rfl rfl (by rfl) (by decide) (f68_advance_ok hq114) ?_
                rintro r9 M9 ⟨rfl, rfl⟩
                show pG 125 73 [some (.ref 182), some (.ref p0), some (.long (Z105.2.1 183 6)), none, none, none] [] (mjTo Z116) _
                refine pG_many 1 (pc1 := 74) (L1 := [some (.ref 182), some (.ref p0), some (.long (Z105.2.1 183 6)), none, none, none]) (st1 := [.ref 182]) (M1 := mjTo Z116) rfl ?_
                refine pG_getR (ci := 6) (f := 0) (b := 183) rfl rfl rfl (by rfl) rfl ?_
                refine pG_many 1 (pc1 := 79) (L1 := [some (.ref 182), some (.ref p0), some (.long (Z105.2.1 183 6)), none, none, none]) (st1 := [.ref 1000003, .ref 183]) (M1 := mjTo Z116) rfl ?_
                cases hq117 : f51_indexIn 1000003 Z116 with
                | none => rw [hq117] at h; cases h
                | some v118 =>
                  rw [hq117, mjBp_some] at h
                  refine pG_callV (k2 := 51) (As := [.ref 183, .ref 1000003]) (rest := []) rfl rfl rfl rfl rfl (by rfl) (by decide) (f51_indexIn_ok hq117) ?_
                  rintro r9 M9 ⟨rfl, rfl⟩
                  show pG 125 82 [some (.ref 182), some (.ref p0), some (.long (Z105.2.1 183 6)), none, none, none] [.int v118] (mjTo Z116) _
                  refine pG_many 3 (pc1 := 87) (L1 := [some (.ref 182), some (.ref p0), some (.long (Z105.2.1 183 6)), none, some (.int v118), none]) (st1 := [.int ((-1)), .int v118]) (M1 := mjTo Z116) rfl ?_
                  by_cases hc120 : mjCmp .ne v118 ((-1)) = true
                  · rw [if_pos hc120] at h
                    refine pG_cmt (t := 96) rfl rfl hc120 ?_
                    refine pG_many 1 (pc1 := 97) (L1 := [some (.ref 182), some (.ref p0), some (.long (Z105.2.1 183 6)), none, some (.int v118), none]) (st1 := [.ref 182]) (M1 := mjTo Z116) rfl ?_
                    refine pG_getR (ci := 6) (f := 0) (b := 183) rfl rfl rfl (by rfl) rfl ?_
                    cases hq121 : f68_advance  Z116 with
                    | none => rw [hq121] at h; cases h
                    | some w =>
                      obtain ⟨v122, Z123⟩ := w
                      rw [hq121, mjBd_some] at h
                      refine pG_callV (k2 := 68) (As := [.ref 183]) (rest := []) rfl rfl rfl rfl rfl (by rfl) (by decide) (f68_advance_ok hq121) ?_
                      rintro r9 M9 ⟨rfl, rfl⟩
                      show pG 125 103 [some (.ref 182), some (.ref p0), some (.long (Z105.2.1 183 6)), none, some (.int v118), none] [] (mjTo Z123) _
                      refine pG_many 3 (pc1 := 107) (L1 := [some (.ref 182), some (.ref p0), some (.long (Z105.2.1 183 6)), none, some (.int v118), none]) (st1 := [.int 0, .ref 1000004, .ref 182]) (M1 := mjTo Z123) rfl ?_
                      cases hq124 : f115_takeWord 1000004 0 Z123 with
                      | none => rw [hq124] at h; cases h
                      | some w =>
                        obtain ⟨v125, Z126⟩ := w
                        rw [hq124, mjBd_some] at h
                        refine pG_callV (k2 := 115) (As := [.ref 182, .ref 1000004, .int 0]) (rest := []) rfl rfl rfl rfl rfl (by rfl) (by decide) (f115_takeWord_ok hq124) ?_
                        rintro r9 M9 ⟨rfl, rfl⟩
                        show pG 125 110 [some (.ref 182), some (.ref p0), some (.long (Z105.2.1 183 6)), none, some (.int v118), none] [.int v125] (mjTo Z126) _
                        by_cases hc127 : mjCmp .ne v125 0 = true
                        · rw [if_pos hc127] at h
                          refine pG_ift (t := 115) rfl rfl hc127 ?_
                          refine pG_many 1 (pc1 := 116) (L1 := [some (.ref 182), some (.ref p0), some (.long (Z105.2.1 183 6)), none, some (.int v118), none]) (st1 := [.ref 182]) (M1 := mjTo Z126) rfl ?_
                          refine pG_getR (ci := 6) (f := 1) (b := 185) rfl rfl rfl (by rfl) rfl ?_
                          refine pG_many 1 (pc1 := 120) (L1 := [some (.ref 182), some (.ref p0), some (.long (Z105.2.1 183 6)), none, some (.int v118), none]) (st1 := [.ref 182, .ref 185]) (M1 := mjTo Z126) rfl ?_
                          refine pG_getR (ci := 6) (f := 0) (b := 183) rfl rfl rfl (by rfl) rfl ?_
                          refine pG_many 1 (pc1 := 124) (L1 := [some (.ref 182), some (.ref p0), some (.long (Z105.2.1 183 6)), none, some (.int v118), none]) (st1 := [.ref p0, .ref 183, .ref 185]) (M1 := mjTo Z126) rfl ?_
                          refine pG_getR (ci := 2) (f := 12) (b := p0 + 1) rfl rfl rfl hk101 (mjRc2_12 hk101) ?_
                          refine pG_many 1 (pc1 := 128) (L1 := [some (.ref 182), some (.ref p0), some (.long (Z105.2.1 183 6)), none, some (.int v118), none]) (st1 := [.ref p0, .ref (p0 + 1), .ref 183, .ref 185]) (M1 := mjTo Z126) rfl ?_
                          refine pG_getI (ci := 2) (f := 8) rfl rfl (Or.inl rfl) hk101 ?_
                          refine pG_many 1 (pc1 := 132) (L1 := [some (.ref 182), some (.ref p0), some (.long (Z105.2.1 183 6)), none, some (.int v118), none]) (st1 := [.int 0, .int (Z126.1 p0 8), .ref (p0 + 1), .ref 183, .ref 185]) (M1 := mjTo Z126) rfl ?_
                          cases hq128 : f76_condition (Z126.1 p0 8) 0 Z126 with
                          | none => rw [hq128] at h; cases h
                          | some v129 =>
                            rw [hq128, mjBp_some] at h
                            refine pG_call (k2 := 76) (As := [.int (Z126.1 p0 8), .int 0]) (rest := [.ref (p0 + 1), .ref 183, .ref 185]) rfl (by decide) (f76_condition_ok hq128) ?_
                            rintro r9 M9 ⟨rfl, rfl⟩
                            show pG 125 135 [some (.ref 182), some (.ref p0), some (.long (Z105.2.1 183 6)), none, some (.int v118), none] [.int v129, .ref (p0 + 1), .ref 183, .ref 185] (mjTo Z126) _
                            cases hq131 : f69_read (p0 + 1) v129 Z126 with
                            | none => rw [hq131] at h; cases h
                            | some w =>
                              obtain ⟨v132, Z133⟩ := w
                              rw [hq131, mjBd_some] at h
                              refine pG_callV (k2 := 69) (As := [.ref 185, .ref 183, .ref (p0 + 1), .int v129]) (rest := []) rfl rfl rfl rfl rfl (by rfl) (by decide) (f69_read_ok hq131) ?_
                              rintro r9 M9 ⟨rfl, rfl⟩
                              show pG 125 138 [some (.ref 182), some (.ref p0), some (.long (Z105.2.1 183 6)), none, some (.int v118), none] [.int v132] (mjTo Z133) _
                              refine pG_many 2 (pc1 := 142) (L1 := [some (.ref 182), some (.ref p0), some (.long (Z105.2.1 183 6)), none, some (.int v118), some (.int v132)]) (st1 := [.int v132]) (M1 := mjTo Z133) rfl ?_
                              by_cases hc134 : mjCmp .ne v132 0 = true
                              · rw [if_pos hc134] at h
                                refine pG_ift (t := 190) rfl rfl hc134 ?_
                                exact f125_readRule_j190_ok p0 (Z105.2.1 183 6) v118 v132 none Z133 v9 Z9 h
                              · rw [if_neg hc134] at h
                                refine pG_iff (t := 190) rfl rfl hc134 ?_
                                refine pG_many 1 (pc1 := 146) (L1 := [some (.ref 182), some (.ref p0), some (.long (Z105.2.1 183 6)), none, some (.int v118), some (.int v132)]) (st1 := [.ref 182]) (M1 := mjTo Z133) rfl ?_
                                refine pG_getR (ci := 6) (f := 0) (b := 183) rfl rfl rfl (by rfl) rfl ?_
                                refine pG_many 1 (pc1 := 151) (L1 := [some (.ref 182), some (.ref p0), some (.long (Z105.2.1 183 6)), none, some (.int v118), some (.int v132)]) (st1 := [.ref 1000004, .ref 183]) (M1 := mjTo Z133) rfl ?_
                                cases hq144 : f51_indexIn 1000004 Z133 with
                                | none => rw [hq144] at h; cases h
                                | some v145 =>
                                  rw [hq144, mjBp_some] at h
                                  refine pG_callV (k2 := 51) (As := [.ref 183, .ref 1000004]) (rest := []) rfl rfl rfl rfl rfl (by rfl) (by decide) (f51_indexIn_ok hq144) ?_
                                  rintro r9 M9 ⟨rfl, rfl⟩
                                  show pG 125 154 [some (.ref 182), some (.ref p0), some (.long (Z105.2.1 183 6)), none, some (.int v118), some (.int v132)] [.int v145] (mjTo Z133) _
                                  refine pG_many 1 (pc1 := 155) (L1 := [some (.ref 182), some (.ref p0), some (.long (Z105.2.1 183 6)), none, some (.int v118), some (.int v132)]) (st1 := [.int 1, .int v145]) (M1 := mjTo Z133) rfl ?_
                                  by_cases hc147 : mjCmp .ne v145 1 = true
                                  · rw [if_pos hc147] at h
                                    refine pG_cmt (t := 190) rfl rfl hc147 ?_
                                    exact f125_readRule_j190_ok p0 (Z105.2.1 183 6) v118 v132 none Z133 v9 Z9 h
                                  · rw [if_neg hc147] at h
                                    refine pG_cmf (t := 190) rfl rfl hc147 ?_
                                    refine pG_many 1 (pc1 := 159) (L1 := [some (.ref 182), some (.ref p0), some (.long (Z105.2.1 183 6)), none, some (.int v118), some (.int v132)]) (st1 := [.ref 182]) (M1 := mjTo Z133) rfl ?_
                                    refine pG_getR (ci := 6) (f := 0) (b := 183) rfl rfl rfl (by rfl) rfl ?_
                                    cases hq148 : f68_advance  Z133 with
                                    | none => rw [hq148] at h; cases h
                                    | some w =>
                                      obtain ⟨v149, Z150⟩ := w
                                      rw [hq148, mjBd_some] at h
                                      refine pG_callV (k2 := 68) (As := [.ref 183]) (rest := []) rfl rfl rfl rfl rfl (by rfl) (by decide) (f68_advance_ok hq148) ?_
                                      rintro r9 M9 ⟨rfl, rfl⟩
                                      show pG 125 165 [some (.ref 182), some (.ref p0), some (.long (Z105.2.1 183 6)), none, some (.int v118), some (.int v132)] [] (mjTo Z150) _
                                      refine pG_many 1 (pc1 := 166) (L1 := [some (.ref 182), some (.ref p0), some (.long (Z105.2.1 183 6)), none, some (.int v118), some (.int v132)]) (st1 := [.ref 182]) (M1 := mjTo Z150) rfl ?_
                                      refine pG_getR (ci := 6) (f := 1) (b := 185) rfl rfl rfl (by rfl) rfl ?_
                                      refine pG_many 1 (pc1 := 170) (L1 := [some (.ref 182), some (.ref p0), some (.long (Z105.2.1 183 6)), none, some (.int v118), some (.int v132)]) (st1 := [.ref 182, .ref 185]) (M1 := mjTo Z150) rfl ?_
                                      refine pG_getR (ci := 6) (f := 0) (b := 183) rfl rfl rfl (by rfl) rfl ?_
                                      refine pG_many 1 (pc1 := 174) (L1 := [some (.ref 182), some (.ref p0), some (.long (Z105.2.1 183 6)), none, some (.int v118), some (.int v132)]) (st1 := [.ref p0, .ref 183, .ref 185]) (M1 := mjTo Z150) rfl ?_
                                      refine pG_getR (ci := 2) (f := 12) (b := p0 + 1) rfl rfl rfl hk101 (mjRc2_12 hk101) ?_
                                      refine pG_many 1 (pc1 := 178) (L1 := [some (.ref 182), some (.ref p0), some (.long (Z105.2.1 183 6)), none, some (.int v118), some (.int v132)]) (st1 := [.ref p0, .ref (p0 + 1), .ref 183, .ref 185]) (M1 := mjTo Z150) rfl ?_
                                      refine pG_getI (ci := 2) (f := 8) rfl rfl (Or.inl rfl) hk101 ?_
                                      refine pG_many 1 (pc1 := 182) (L1 := [some (.ref 182), some (.ref p0), some (.long (Z105.2.1 183 6)), none, some (.int v118), some (.int v132)]) (st1 := [.int 1, .int (Z150.1 p0 8), .ref (p0 + 1), .ref 183, .ref 185]) (M1 := mjTo Z150) rfl ?_
                                      cases hq151 : f76_condition (Z150.1 p0 8) 1 Z150 with
                                      | none => rw [hq151] at h; cases h
                                      | some v152 =>
                                        rw [hq151, mjBp_some] at h
                                        refine pG_call (k2 := 76) (As := [.int (Z150.1 p0 8), .int 1]) (rest := [.ref (p0 + 1), .ref 183, .ref 185]) rfl (by decide) (f76_condition_ok hq151) ?_
                                        rintro r9 M9 ⟨rfl, rfl⟩
                                        show pG 125 185 [some (.ref 182), some (.ref p0), some (.long (Z105.2.1 183 6)), none, some (.int v118), some (.int v132)] [.int v152, .ref (p0 + 1), .ref 183, .ref 185] (mjTo Z150) _
                                        cases hq154 : f69_read (p0 + 1) v152 Z150 with
                                        | none => rw [hq154] at h; cases h
                                        | some w =>
                                          obtain ⟨v155, Z156⟩ := w
                                          rw [hq154, mjBd_some] at h
                                          refine pG_callV (k2 := 69) (As := [.ref 185, .ref 183, .ref (p0 + 1), .int v152]) (rest := []) rfl rfl rfl rfl rfl (by rfl) (by decide) (f69_read_ok hq154) ?_
                                          rintro r9 M9 ⟨rfl, rfl⟩
                                          show pG 125 188 [some (.ref 182), some (.ref p0), some (.long (Z105.2.1 183 6)), none, some (.int v118), some (.int v132)] [.int v155] (mjTo Z156) _
                                          refine pG_many 1 (pc1 := 190) (L1 := [some (.ref 182), some (.ref p0), some (.long (Z105.2.1 183 6)), none, some (.int v118), some (.int v155)]) (st1 := []) (M1 := mjTo Z156) rfl ?_
                                          exact f125_readRule_j190_ok p0 (Z105.2.1 183 6) v118 v155 none Z156 v9 Z9 h
                        · rw [if_neg hc127] at h
                          refine pG_iff (t := 115) rfl rfl hc127 ?_
                          refine pG_many 1 (pc1 := 114) (L1 := [some (.ref 182), some (.ref p0), some (.long (Z105.2.1 183 6)), none, some (.int v118), none]) (st1 := [.int 0]) (M1 := mjTo Z126) rfl ?_
                          simp only [Option.some.injEq, Prod.mk.injEq] at h
                          obtain ⟨rfl, rfl⟩ := h
                          exact pG_ret (r := some (.int 0)) rfl ⟨rfl, rfl⟩
                  · rw [if_neg hc120] at h
                    refine pG_cmf (t := 96) rfl rfl hc120 ?_
                    refine pG_many 2 (pc1 := 92) (L1 := [some (.ref 182), some (.ref p0), some (.long (Z105.2.1 183 6)), none, some (.int v118), none]) (st1 := [.int 2, .ref 182]) (M1 := mjTo Z116) rfl ?_
                    cases hq157 : f114_fail 2 Z116 with
                    | none => rw [hq157] at h; cases h
                    | some w =>
                      obtain ⟨v158, Z159⟩ := w
                      rw [hq157, mjBd_some] at h
                      refine pG_callV (k2 := 114) (As := [.ref 182, .int 2]) (rest := []) rfl rfl rfl rfl rfl (by rfl) (by decide) (f114_fail_ok hq157) ?_
                      rintro r9 M9 ⟨rfl, rfl⟩
                      show pG 125 95 [some (.ref 182), some (.ref p0), some (.long (Z105.2.1 183 6)), none, some (.int v118), none] [.int v158] (mjTo Z159) _
                      have hk160 : v158 = 0 ∨ v158 = 1 := by
                        by_cases q9 : v158 = 0 ∨ v158 = 1
                        · exact q9
                        · rw [if_neg q9] at h; cases h
                      rw [if_pos hk160] at h
                      simp only [Option.some.injEq, Prod.mk.injEq] at h
                      obtain ⟨rfl, rfl⟩ := h
                      exact pG_ret (r := some (.int v158)) (mjRt1_z rfl rfl hk160) ⟨rfl, rfl⟩
            · rw [if_neg hc113] at h
              refine pG_iff (t := 58) rfl rfl hc113 ?_
              refine pG_many 2 (pc1 := 54) (L1 := [some (.ref 182), some (.ref p0), none, none, none, none]) (st1 := [.int 3, .ref 182]) (M1 := mjTo Z105) rfl ?_
              cases hq161 : f114_fail 3 Z105 with
              | none => rw [hq161] at h; cases h
              | some w =>
                obtain ⟨v162, Z163⟩ := w
                rw [hq161, mjBd_some] at h
                refine pG_callV (k2 := 114) (As := [.ref 182, .int 3]) (rest := []) rfl rfl rfl rfl rfl (by rfl) (by decide) (f114_fail_ok hq161) ?_
                rintro r9 M9 ⟨rfl, rfl⟩
                show pG 125 57 [some (.ref 182), some (.ref p0), none, none, none, none] [.int v162] (mjTo Z163) _
                have hk164 : v162 = 0 ∨ v162 = 1 := by
                  by_cases q9 : v162 = 0 ∨ v162 = 1
                  · exact q9
                  · rw [if_neg q9] at h; cases h
                rw [if_pos hk164] at h
                simp only [Option.some.injEq, Prod.mk.injEq] at h
                obtain ⟨rfl, rfl⟩ := h
                exact pG_ret (r := some (.int v162)) (mjRt1_z rfl rfl hk164) ⟨rfl, rfl⟩
        · rw [if_neg hc109] at h
          refine pG_iff (t := 38) rfl rfl hc109 ?_
          refine pG_many 2 (pc1 := 34) (L1 := [some (.ref 182), some (.ref p0), none, none, none, none]) (st1 := [.int 2, .ref 182]) (M1 := mjTo Z105) rfl ?_
          cases hq165 : f114_fail 2 Z105 with
          | none => rw [hq165] at h; cases h
          | some w =>
            obtain ⟨v166, Z167⟩ := w
            rw [hq165, mjBd_some] at h
            refine pG_callV (k2 := 114) (As := [.ref 182, .int 2]) (rest := []) rfl rfl rfl rfl rfl (by rfl) (by decide) (f114_fail_ok hq165) ?_
            rintro r9 M9 ⟨rfl, rfl⟩
            show pG 125 37 [some (.ref 182), some (.ref p0), none, none, none, none] [.int v166] (mjTo Z167) _
            have hk168 : v166 = 0 ∨ v166 = 1 := by
              by_cases q9 : v166 = 0 ∨ v166 = 1
              · exact q9
              · rw [if_neg q9] at h; cases h
            rw [if_pos hk168] at h
            simp only [Option.some.injEq, Prod.mk.injEq] at h
            obtain ⟨rfl, rfl⟩ := h
            exact pG_ret (r := some (.int v166)) (mjRt1_z rfl rfl hk168) ⟨rfl, rfl⟩
  · rw [if_neg hc102] at h
    refine pG_cmf (t := 15) rfl rfl hc102 ?_
    refine pG_many 2 (pc1 := 11) (L1 := [some (.ref 182), some (.ref p0), none, none, none, none]) (st1 := [.int 5, .ref 182]) (M1 := mjTo Z) rfl ?_
    cases hq169 : f114_fail 5 Z with
    | none => rw [hq169] at h; cases h
    | some w =>
      obtain ⟨v170, Z171⟩ := w
      rw [hq169, mjBd_some] at h
      refine pG_callV (k2 := 114) (As := [.ref 182, .int 5]) (rest := []) rfl rfl rfl rfl rfl (by rfl) (by decide) (f114_fail_ok hq169) ?_
      rintro r9 M9 ⟨rfl, rfl⟩
      show pG 125 14 [some (.ref 182), some (.ref p0), none, none, none, none] [.int v170] (mjTo Z171) _
      have hk172 : v170 = 0 ∨ v170 = 1 := by
        by_cases q9 : v170 = 0 ∨ v170 = 1
        · exact q9
        · rw [if_neg q9] at h; cases h
      rw [if_pos hk172] at h
      simp only [Option.some.injEq, Prod.mk.injEq] at h
      obtain ⟨rfl, rfl⟩ := h
      exact pG_ret (r := some (.int v170)) (mjRt1_z rfl rfl hk172) ⟨rfl, rfl⟩
def f126_readThrough (p0 : Nat) (Z : mjZt) : Option (Int32 × mjZt) :=
  if mjCmp .eq (Z.1 182 2) 0 = true then
    mjBd (f68_advance  Z) fun _ Z104 =>
    mjBd (f116_takeNumber 1 6 Z104) fun v106 Z107 =>
    if mjCmp .ne v106 0 = true then
      mjLet (zSi Z107 182 2 1) fun Z109 =>
      if mjIs p0 251 2 = true then
      mjLet (zSi Z109 p0 9 (Z109.1 182 4)) fun Z111 =>
      some (1, Z111)
      else none
    else
      some (0, Z107)
  else
    mjBd (f114_fail 6 Z) fun v113 Z114 =>
    if v113 = 0 ∨ v113 = 1 then
    some (v113, Z114)
    else none
theorem f126_readThrough_ok {p0 : Nat} {Z : mjZt} {v9 : Int32} {Z9 : mjZt} (h : f126_readThrough p0 Z = some (v9, Z9)) : pG 126 0 (mjEnt [.ref 182, .ref p0] (mjML 126)) [] (mjTo Z) (fun r M1 => r = some (.int v9) ∧ M1 = mjTo Z9) := by
  unfold f126_readThrough at h
  show pG 126 0 [some (.ref 182), some (.ref p0)] [] (mjTo Z) _
  refine pG_many 1 (pc1 := 1) (L1 := [some (.ref 182), some (.ref p0)]) (st1 := [.ref 182]) (M1 := mjTo Z) rfl ?_
  refine pG_getI (ci := 6) (f := 2) rfl rfl (Or.inr rfl) (by rfl) ?_
  by_cases hc101 : mjCmp .eq (Z.1 182 2) 0 = true
  · rw [if_pos hc101] at h
    refine pG_ift (t := 14) rfl rfl hc101 ?_
    refine pG_many 1 (pc1 := 15) (L1 := [some (.ref 182), some (.ref p0)]) (st1 := [.ref 182]) (M1 := mjTo Z) rfl ?_
    refine pG_getR (ci := 6) (f := 0) (b := 183) rfl rfl rfl (by rfl) rfl ?_
    cases hq102 : f68_advance  Z with
    | none => rw [hq102] at h; cases h
    | some w =>
      obtain ⟨v103, Z104⟩ := w
      rw [hq102, mjBd_some] at h
      refine pG_callV (k2 := 68) (As := [.ref 183]) (rest := []) rfl rfl rfl rfl rfl (by rfl) (by decide) (f68_advance_ok hq102) ?_
      rintro r9 M9 ⟨rfl, rfl⟩
      show pG 126 21 [some (.ref 182), some (.ref p0)] [] (mjTo Z104) _
      refine pG_many 3 (pc1 := 25) (L1 := [some (.ref 182), some (.ref p0)]) (st1 := [.int 6, .int 1, .ref 182]) (M1 := mjTo Z104) rfl ?_
      cases hq105 : f116_takeNumber 1 6 Z104 with
      | none => rw [hq105] at h; cases h
      | some w =>
        obtain ⟨v106, Z107⟩ := w
        rw [hq105, mjBd_some] at h
        refine pG_callV (k2 := 116) (As := [.ref 182, .int 1, .int 6]) (rest := []) rfl rfl rfl rfl rfl (by rfl) (by decide) (f116_takeNumber_ok hq105) ?_
        rintro r9 M9 ⟨rfl, rfl⟩
        show pG 126 28 [some (.ref 182), some (.ref p0)] [.int v106] (mjTo Z107) _
        by_cases hc108 : mjCmp .ne v106 0 = true
        · rw [if_pos hc108] at h
          refine pG_ift (t := 33) rfl rfl hc108 ?_
          refine pG_many 2 (pc1 := 35) (L1 := [some (.ref 182), some (.ref p0)]) (st1 := [.int 1, .ref 182]) (M1 := mjTo Z107) rfl ?_
          refine pG_putZ (ci := 6) (f := 2) rfl rfl rfl rfl (by rfl) (Or.inr rfl) ?_
          rw [mjLet] at h
          generalize zSi Z107 182 2 1 = Z109 at h ⊢
          refine pG_many 2 (pc1 := 40) (L1 := [some (.ref 182), some (.ref p0)]) (st1 := [.ref 182, .ref p0]) (M1 := mjTo Z109) rfl ?_
          refine pG_getI (ci := 6) (f := 4) rfl rfl (Or.inl rfl) (by rfl) ?_
          have hk110 : mjIs p0 251 2 = true := by
            by_cases q9 : mjIs p0 251 2 = true
            · exact q9
            · rw [if_neg q9] at h; cases h
          rw [if_pos hk110] at h
          refine pG_putI (ci := 2) (f := 9) rfl rfl rfl rfl hk110 ?_
          rw [mjLet] at h
          generalize zSi Z109 p0 9 (Z109.1 182 4) = Z111 at h ⊢
          refine pG_many 1 (pc1 := 47) (L1 := [some (.ref 182), some (.ref p0)]) (st1 := [.int 1]) (M1 := mjTo Z111) rfl ?_
          simp only [Option.some.injEq, Prod.mk.injEq] at h
          obtain ⟨rfl, rfl⟩ := h
          exact pG_ret (r := some (.int 1)) rfl ⟨rfl, rfl⟩
        · rw [if_neg hc108] at h
          refine pG_iff (t := 33) rfl rfl hc108 ?_
          refine pG_many 1 (pc1 := 32) (L1 := [some (.ref 182), some (.ref p0)]) (st1 := [.int 0]) (M1 := mjTo Z107) rfl ?_
          simp only [Option.some.injEq, Prod.mk.injEq] at h
          obtain ⟨rfl, rfl⟩ := h
          exact pG_ret (r := some (.int 0)) rfl ⟨rfl, rfl⟩
  · rw [if_neg hc101] at h
    refine pG_iff (t := 14) rfl rfl hc101 ?_
    refine pG_many 2 (pc1 := 10) (L1 := [some (.ref 182), some (.ref p0)]) (st1 := [.int 6, .ref 182]) (M1 := mjTo Z) rfl ?_
    cases hq112 : f114_fail 6 Z with
    | none => rw [hq112] at h; cases h
    | some w =>
      obtain ⟨v113, Z114⟩ := w
      rw [hq112, mjBd_some] at h
      refine pG_callV (k2 := 114) (As := [.ref 182, .int 6]) (rest := []) rfl rfl rfl rfl rfl (by rfl) (by decide) (f114_fail_ok hq112) ?_
      rintro r9 M9 ⟨rfl, rfl⟩
      show pG 126 13 [some (.ref 182), some (.ref p0)] [.int v113] (mjTo Z114) _
      have hk115 : v113 = 0 ∨ v113 = 1 := by
        by_cases q9 : v113 = 0 ∨ v113 = 1
        · exact q9
        · rw [if_neg q9] at h; cases h
      rw [if_pos hk115] at h
      simp only [Option.some.injEq, Prod.mk.injEq] at h
      obtain ⟨rfl, rfl⟩ := h
      exact pG_ret (r := some (.int v113)) (mjRt1_z rfl rfl hk115) ⟨rfl, rfl⟩
def f127_readWithin (p0 : Nat) (Z : mjZt) : Option (Int32 × mjZt) :=
  if mjCmp .eq (Z.1 182 3) 0 = true then
    mjBd (f68_advance  Z) fun _ Z104 =>
    mjBd (f116_takeNumber 0 99 Z104) fun v106 Z107 =>
    if mjCmp .ne v106 0 = true then
      mjLet (zSi Z107 182 3 1) fun Z109 =>
      if mjIs p0 251 2 = true then
      mjLet (zSi Z109 p0 10 (Z109.1 182 4)) fun Z111 =>
      some (1, Z111)
      else none
    else
      some (0, Z107)
  else
    mjBd (f114_fail 6 Z) fun v113 Z114 =>
    if v113 = 0 ∨ v113 = 1 then
    some (v113, Z114)
    else none
theorem f127_readWithin_ok {p0 : Nat} {Z : mjZt} {v9 : Int32} {Z9 : mjZt} (h : f127_readWithin p0 Z = some (v9, Z9)) : pG 127 0 (mjEnt [.ref 182, .ref p0] (mjML 127)) [] (mjTo Z) (fun r M1 => r = some (.int v9) ∧ M1 = mjTo Z9) := by
  unfold f127_readWithin at h
  show pG 127 0 [some (.ref 182), some (.ref p0)] [] (mjTo Z) _
  refine pG_many 1 (pc1 := 1) (L1 := [some (.ref 182), some (.ref p0)]) (st1 := [.ref 182]) (M1 := mjTo Z) rfl ?_
  refine pG_getI (ci := 6) (f := 3) rfl rfl (Or.inr rfl) (by rfl) ?_
  by_cases hc101 : mjCmp .eq (Z.1 182 3) 0 = true
  · rw [if_pos hc101] at h
    refine pG_ift (t := 14) rfl rfl hc101 ?_
    refine pG_many 1 (pc1 := 15) (L1 := [some (.ref 182), some (.ref p0)]) (st1 := [.ref 182]) (M1 := mjTo Z) rfl ?_
    refine pG_getR (ci := 6) (f := 0) (b := 183) rfl rfl rfl (by rfl) rfl ?_
    cases hq102 : f68_advance  Z with
    | none => rw [hq102] at h; cases h
    | some w =>
      obtain ⟨v103, Z104⟩ := w
      rw [hq102, mjBd_some] at h
      refine pG_callV (k2 := 68) (As := [.ref 183]) (rest := []) rfl rfl rfl rfl rfl (by rfl) (by decide) (f68_advance_ok hq102) ?_
      rintro r9 M9 ⟨rfl, rfl⟩
      show pG 127 21 [some (.ref 182), some (.ref p0)] [] (mjTo Z104) _
      refine pG_many 3 (pc1 := 25) (L1 := [some (.ref 182), some (.ref p0)]) (st1 := [.int 99, .int 0, .ref 182]) (M1 := mjTo Z104) rfl ?_
      cases hq105 : f116_takeNumber 0 99 Z104 with
      | none => rw [hq105] at h; cases h
      | some w =>
        obtain ⟨v106, Z107⟩ := w
        rw [hq105, mjBd_some] at h
        refine pG_callV (k2 := 116) (As := [.ref 182, .int 0, .int 99]) (rest := []) rfl rfl rfl rfl rfl (by rfl) (by decide) (f116_takeNumber_ok hq105) ?_
        rintro r9 M9 ⟨rfl, rfl⟩
        show pG 127 28 [some (.ref 182), some (.ref p0)] [.int v106] (mjTo Z107) _
        by_cases hc108 : mjCmp .ne v106 0 = true
        · rw [if_pos hc108] at h
          refine pG_ift (t := 33) rfl rfl hc108 ?_
          refine pG_many 2 (pc1 := 35) (L1 := [some (.ref 182), some (.ref p0)]) (st1 := [.int 1, .ref 182]) (M1 := mjTo Z107) rfl ?_
          refine pG_putZ (ci := 6) (f := 3) rfl rfl rfl rfl (by rfl) (Or.inr rfl) ?_
          rw [mjLet] at h
          generalize zSi Z107 182 3 1 = Z109 at h ⊢
          refine pG_many 2 (pc1 := 40) (L1 := [some (.ref 182), some (.ref p0)]) (st1 := [.ref 182, .ref p0]) (M1 := mjTo Z109) rfl ?_
          refine pG_getI (ci := 6) (f := 4) rfl rfl (Or.inl rfl) (by rfl) ?_
          have hk110 : mjIs p0 251 2 = true := by
            by_cases q9 : mjIs p0 251 2 = true
            · exact q9
            · rw [if_neg q9] at h; cases h
          rw [if_pos hk110] at h
          refine pG_putI (ci := 2) (f := 10) rfl rfl rfl rfl hk110 ?_
          rw [mjLet] at h
          generalize zSi Z109 p0 10 (Z109.1 182 4) = Z111 at h ⊢
          refine pG_many 1 (pc1 := 47) (L1 := [some (.ref 182), some (.ref p0)]) (st1 := [.int 1]) (M1 := mjTo Z111) rfl ?_
          simp only [Option.some.injEq, Prod.mk.injEq] at h
          obtain ⟨rfl, rfl⟩ := h
          exact pG_ret (r := some (.int 1)) rfl ⟨rfl, rfl⟩
        · rw [if_neg hc108] at h
          refine pG_iff (t := 33) rfl rfl hc108 ?_
          refine pG_many 1 (pc1 := 32) (L1 := [some (.ref 182), some (.ref p0)]) (st1 := [.int 0]) (M1 := mjTo Z107) rfl ?_
          simp only [Option.some.injEq, Prod.mk.injEq] at h
          obtain ⟨rfl, rfl⟩ := h
          exact pG_ret (r := some (.int 0)) rfl ⟨rfl, rfl⟩
  · rw [if_neg hc101] at h
    refine pG_iff (t := 14) rfl rfl hc101 ?_
    refine pG_many 2 (pc1 := 10) (L1 := [some (.ref 182), some (.ref p0)]) (st1 := [.int 6, .ref 182]) (M1 := mjTo Z) rfl ?_
    cases hq112 : f114_fail 6 Z with
    | none => rw [hq112] at h; cases h
    | some w =>
      obtain ⟨v113, Z114⟩ := w
      rw [hq112, mjBd_some] at h
      refine pG_callV (k2 := 114) (As := [.ref 182, .int 6]) (rest := []) rfl rfl rfl rfl rfl (by rfl) (by decide) (f114_fail_ok hq112) ?_
      rintro r9 M9 ⟨rfl, rfl⟩
      show pG 127 13 [some (.ref 182), some (.ref p0)] [.int v113] (mjTo Z114) _
      have hk115 : v113 = 0 ∨ v113 = 1 := by
        by_cases q9 : v113 = 0 ∨ v113 = 1
        · exact q9
        · rw [if_neg q9] at h; cases h
      rw [if_pos hk115] at h
      simp only [Option.some.injEq, Prod.mk.injEq] at h
      obtain ⟨rfl, rfl⟩ := h
      exact pG_ret (r := some (.int v113)) (mjRt1_z rfl rfl hk115) ⟨rfl, rfl⟩
def f128_read_j179 (R : Nat → Int32 → mjZt → Option (Int32 × mjZt)) (x3 : Nat) (x4 : Int32) (x5 : Int32) (Z : mjZt) : Option (Int32 × mjZt) :=
  if mjCmp .eq x5 0 = true then
    some ((-1), Z)
  else
    mjBd (f117_takeSign 59 Z) fun v127 Z128 =>
    if mjCmp .ne v127 0 = true then
      R x3 (x4 + 1) Z128
    else
      some ((-1), Z128)
theorem f128_read_j179_ok (R : Nat → Int32 → mjZt → Option (Int32 × mjZt)) (hR : ∀ (x3 : Nat) (x4 : Int32) (d1 d2 d5 : Option Value) (Z : mjZt) (v9 : Int32) (Z9 : mjZt), R x3 x4 Z = some (v9, Z9) → pG 128 46 [some (.ref 182), d1, d2, some (.ref x3), some (.int x4), d5] [] (mjTo Z) (fun r M1 => r = some (.int v9) ∧ M1 = mjTo Z9)) (x3 : Nat) (x4 : Int32) (x5 : Int32) (d1 d2 : Option Value) (Z : mjZt) (v9 : Int32) (Z9 : mjZt) (h : f128_read_j179 R x3 x4 x5 Z = some (v9, Z9)) : pG 128 179 [some (.ref 182), d1, d2, some (.ref x3), some (.int x4), some (.int x5)] [] (mjTo Z) (fun r M1 => r = some (.int v9) ∧ M1 = mjTo Z9) := by
  unfold f128_read_j179 at h
  refine pG_many 1 (pc1 := 181) (L1 := [some (.ref 182), d1, d2, some (.ref x3), some (.int x4), some (.int x5)]) (st1 := [.int x5]) (M1 := mjTo Z) rfl ?_
  by_cases hc125 : mjCmp .eq x5 0 = true
  · rw [if_pos hc125] at h
    refine pG_ift (t := 193) rfl rfl hc125 ?_
    refine pG_many 1 (pc1 := 194) (L1 := [some (.ref 182), d1, d2, some (.ref x3), some (.int x4), some (.int x5)]) (st1 := [.int ((-1))]) (M1 := mjTo Z) rfl ?_
    simp only [Option.some.injEq, Prod.mk.injEq] at h
    obtain ⟨rfl, rfl⟩ := h
    exact pG_ret (r := some (.int ((-1)))) rfl ⟨rfl, rfl⟩
  · rw [if_neg hc125] at h
    refine pG_iff (t := 193) rfl rfl hc125 ?_
    refine pG_many 2 (pc1 := 187) (L1 := [some (.ref 182), d1, d2, some (.ref x3), some (.int x4), some (.int x5)]) (st1 := [.int 59, .ref 182]) (M1 := mjTo Z) rfl ?_
    cases hq126 : f117_takeSign 59 Z with
    | none => rw [hq126] at h; cases h
    | some w =>
      obtain ⟨v127, Z128⟩ := w
      rw [hq126, mjBd_some] at h
      refine pG_callV (k2 := 117) (As := [.ref 182, .int 59]) (rest := []) rfl rfl rfl rfl rfl (by rfl) (by decide) (f117_takeSign_ok hq126) ?_
      rintro r9 M9 ⟨rfl, rfl⟩
      show pG 128 190 [some (.ref 182), d1, d2, some (.ref x3), some (.int x4), some (.int x5)] [.int v127] (mjTo Z128) _
      by_cases hc129 : mjCmp .ne v127 0 = true
      · rw [if_pos hc129] at h
        refine pG_ift (t := 195) rfl rfl hc129 ?_
        refine pG_many 2 (pc1 := 46) (L1 := [some (.ref 182), d1, d2, some (.ref x3), some (.int (x4 + 1)), some (.int x5)]) (st1 := []) (M1 := mjTo Z128) rfl ?_
        exact hR x3 (x4 + 1) d1 d2 (some (.int x5)) Z128 v9 Z9 h
      · rw [if_neg hc129] at h
        refine pG_iff (t := 195) rfl rfl hc129 ?_
        refine pG_many 1 (pc1 := 194) (L1 := [some (.ref 182), d1, d2, some (.ref x3), some (.int x4), some (.int x5)]) (st1 := [.int ((-1))]) (M1 := mjTo Z128) rfl ?_
        simp only [Option.some.injEq, Prod.mk.injEq] at h
        obtain ⟨rfl, rfl⟩ := h
        exact pG_ret (r := some (.int ((-1)))) rfl ⟨rfl, rfl⟩
def f128_read_h46 : Nat → Nat → Int32 → mjZt → Option (Int32 × mjZt)
  | 0, _, _, _ => none
  | n + 1, x3, x4, Z =>
    if mjCmp .ge x4 700 = true then
      some (x4, Z)
    else
      if mjCmp .eq (Z.1 183 3) 0 = true then
        some (x4, Z)
      else
        mjBp (f51_indexIn 1000002 Z) fun v119 =>
        if (v119).toInt < 1 ∨ 6 < (v119).toInt then
          mjBd (f114_fail 2 Z) fun v123 Z124 =>
          f128_read_j179 (f128_read_h46 n) x3 x4 v123 Z124
        else if ((v119).toInt - 1).toNat = 0 then
          mjBd (f120_readTeam x3 Z) fun v132 Z133 =>
          f128_read_j179 (f128_read_h46 n) x3 x4 v132 Z133
        else if ((v119).toInt - 1).toNat = 1 then
          mjBd (f123_readRuns x3 Z) fun v136 Z137 =>
          f128_read_j179 (f128_read_h46 n) x3 x4 v136 Z137
        else if ((v119).toInt - 1).toNat = 2 then
          mjBd (f124_readAct x3 Z) fun v140 Z141 =>
          f128_read_j179 (f128_read_h46 n) x3 x4 v140 Z141
        else if ((v119).toInt - 1).toNat = 3 then
          mjBd (f125_readRule x3 Z) fun v144 Z145 =>
          f128_read_j179 (f128_read_h46 n) x3 x4 v144 Z145
        else if ((v119).toInt - 1).toNat = 4 then
          mjBd (f126_readThrough x3 Z) fun v148 Z149 =>
          f128_read_j179 (f128_read_h46 n) x3 x4 v148 Z149
        else if ((v119).toInt - 1).toNat = 5 then
          mjBd (f127_readWithin x3 Z) fun v152 Z153 =>
          f128_read_j179 (f128_read_h46 n) x3 x4 v152 Z153
        else none
theorem f128_read_h46_ok : ∀ (n : Nat) (x3 : Nat) (x4 : Int32) (d1 d2 d5 : Option Value) (Z : mjZt) (v9 : Int32) (Z9 : mjZt), f128_read_h46 n x3 x4 Z = some (v9, Z9) → pG 128 46 [some (.ref 182), d1, d2, some (.ref x3), some (.int x4), d5] [] (mjTo Z) (fun r M1 => r = some (.int v9) ∧ M1 = mjTo Z9)
  | 0, x3, x4, d1, d2, d5, Z, v9, Z9, h => by rw [f128_read_h46] at h; cases h
  | n + 1, x3, x4, d1, d2, d5, Z, v9, Z9, h => by
      rw [f128_read_h46] at h
      refine pG_many 2 (pc1 := 51) (L1 := [some (.ref 182), d1, d2, some (.ref x3), some (.int x4), d5]) (st1 := [.int 700, .int x4]) (M1 := mjTo Z) rfl ?_
      by_cases hc116 : mjCmp .ge x4 700 = true
      · rw [if_pos hc116] at h
        refine pG_cmt (t := 201) rfl rfl hc116 ?_
        refine pG_many 1 (pc1 := 203) (L1 := [some (.ref 182), d1, d2, some (.ref x3), some (.int x4), d5]) (st1 := [.int x4]) (M1 := mjTo Z) rfl ?_
        simp only [Option.some.injEq, Prod.mk.injEq] at h
        obtain ⟨rfl, rfl⟩ := h
        exact pG_ret (r := some (.int x4)) rfl ⟨rfl, rfl⟩
      · rw [if_neg hc116] at h
        refine pG_cmf (t := 201) rfl rfl hc116 ?_
        refine pG_many 1 (pc1 := 55) (L1 := [some (.ref 182), d1, d2, some (.ref x3), some (.int x4), d5]) (st1 := [.ref 182]) (M1 := mjTo Z) rfl ?_
        refine pG_getR (ci := 6) (f := 0) (b := 183) rfl rfl rfl (by rfl) rfl ?_
        refine pG_getI (ci := 9) (f := 3) rfl rfl (Or.inl rfl) (by rfl) ?_
        by_cases hc117 : mjCmp .eq (Z.1 183 3) 0 = true
        · rw [if_pos hc117] at h
          refine pG_ift (t := 201) rfl rfl hc117 ?_
          refine pG_many 1 (pc1 := 203) (L1 := [some (.ref 182), d1, d2, some (.ref x3), some (.int x4), d5]) (st1 := [.int x4]) (M1 := mjTo Z) rfl ?_
          simp only [Option.some.injEq, Prod.mk.injEq] at h
          obtain ⟨rfl, rfl⟩ := h
          exact pG_ret (r := some (.int x4)) rfl ⟨rfl, rfl⟩
        · rw [if_neg hc117] at h
          refine pG_iff (t := 201) rfl rfl hc117 ?_
          refine pG_many 1 (pc1 := 65) (L1 := [some (.ref 182), d1, d2, some (.ref x3), some (.int x4), d5]) (st1 := [.ref 182]) (M1 := mjTo Z) rfl ?_
          refine pG_getR (ci := 6) (f := 0) (b := 183) rfl rfl rfl (by rfl) rfl ?_
          refine pG_many 1 (pc1 := 70) (L1 := [some (.ref 182), d1, d2, some (.ref x3), some (.int x4), d5]) (st1 := [.ref 1000002, .ref 183]) (M1 := mjTo Z) rfl ?_
          cases hq118 : f51_indexIn 1000002 Z with
          | none => rw [hq118] at h; cases h
          | some v119 =>
            rw [hq118, mjBp_some] at h
            refine pG_callV (k2 := 51) (As := [.ref 183, .ref 1000002]) (rest := []) rfl rfl rfl rfl rfl (by rfl) (by decide) (f51_indexIn_ok hq118) ?_
            rintro r9 M9 ⟨rfl, rfl⟩
            show pG 128 73 [some (.ref 182), d1, d2, some (.ref x3), some (.int x4), d5] [.int v119] (mjTo Z) _
            by_cases hs121 : (v119).toInt < 1 ∨ 6 < (v119).toInt
            · rw [if_pos hs121] at h
              refine pG_tso (t := 172) rfl hs121 rfl ?_
              refine pG_many 2 (pc1 := 174) (L1 := [some (.ref 182), d1, d2, some (.ref x3), some (.int x4), d5]) (st1 := [.int 2, .ref 182]) (M1 := mjTo Z) rfl ?_
              cases hq122 : f114_fail 2 Z with
              | none => rw [hq122] at h; cases h
              | some w =>
                obtain ⟨v123, Z124⟩ := w
                rw [hq122, mjBd_some] at h
                refine pG_callV (k2 := 114) (As := [.ref 182, .int 2]) (rest := []) rfl rfl rfl rfl rfl (by rfl) (by decide) (f114_fail_ok hq122) ?_
                rintro r9 M9 ⟨rfl, rfl⟩
                show pG 128 177 [some (.ref 182), d1, d2, some (.ref x3), some (.int x4), d5] [.int v123] (mjTo Z124) _
                refine pG_many 1 (pc1 := 179) (L1 := [some (.ref 182), d1, d2, some (.ref x3), some (.int x4), some (.int v123)]) (st1 := []) (M1 := mjTo Z124) rfl ?_
                exact f128_read_j179_ok (f128_read_h46 n) (fun x3 x4 d1 d2 d5 Z v9 Z9 h => f128_read_h46_ok n x3 x4 d1 d2 d5 Z v9 Z9 h) x3 x4 v123 d1 d2 Z124 v9 Z9 h
            rw [if_neg hs121] at h
            by_cases hs130 : ((v119).toInt - 1).toNat = 0
            · rw [if_pos hs130] at h
              refine pG_tsi (t := 112) (j := 0) (o := 39) rfl hs121 hs130 rfl rfl ?_
              refine pG_many 2 (pc1 := 114) (L1 := [some (.ref 182), d1, d2, some (.ref x3), some (.int x4), d5]) (st1 := [.ref x3, .ref 182]) (M1 := mjTo Z) rfl ?_
              cases hq131 : f120_readTeam x3 Z with
              | none => rw [hq131] at h; cases h
              | some w =>
                obtain ⟨v132, Z133⟩ := w
                rw [hq131, mjBd_some] at h
                refine pG_callV (k2 := 120) (As := [.ref 182, .ref x3]) (rest := []) rfl rfl rfl rfl rfl (by rfl) (by decide) (f120_readTeam_ok hq131) ?_
                rintro r9 M9 ⟨rfl, rfl⟩
                show pG 128 117 [some (.ref 182), d1, d2, some (.ref x3), some (.int x4), d5] [.int v132] (mjTo Z133) _
                refine pG_many 2 (pc1 := 179) (L1 := [some (.ref 182), d1, d2, some (.ref x3), some (.int x4), some (.int v132)]) (st1 := []) (M1 := mjTo Z133) rfl ?_
                exact f128_read_j179_ok (f128_read_h46 n) (fun x3 x4 d1 d2 d5 Z v9 Z9 h => f128_read_h46_ok n x3 x4 d1 d2 d5 Z v9 Z9 h) x3 x4 v132 d1 d2 Z133 v9 Z9 h
            rw [if_neg hs130] at h
            by_cases hs134 : ((v119).toInt - 1).toNat = 1
            · rw [if_pos hs134] at h
              refine pG_tsi (t := 122) (j := 1) (o := 49) rfl hs121 hs134 rfl rfl ?_
              refine pG_many 2 (pc1 := 124) (L1 := [some (.ref 182), d1, d2, some (.ref x3), some (.int x4), d5]) (st1 := [.ref x3, .ref 182]) (M1 := mjTo Z) rfl ?_
              cases hq135 : f123_readRuns x3 Z with
              | none => rw [hq135] at h; cases h
              | some w =>
                obtain ⟨v136, Z137⟩ := w
                rw [hq135, mjBd_some] at h
                refine pG_callV (k2 := 123) (As := [.ref 182, .ref x3]) (rest := []) rfl rfl rfl rfl rfl (by rfl) (by decide) (f123_readRuns_ok hq135) ?_
                rintro r9 M9 ⟨rfl, rfl⟩
                show pG 128 127 [some (.ref 182), d1, d2, some (.ref x3), some (.int x4), d5] [.int v136] (mjTo Z137) _
                refine pG_many 2 (pc1 := 179) (L1 := [some (.ref 182), d1, d2, some (.ref x3), some (.int x4), some (.int v136)]) (st1 := []) (M1 := mjTo Z137) rfl ?_
                exact f128_read_j179_ok (f128_read_h46 n) (fun x3 x4 d1 d2 d5 Z v9 Z9 h => f128_read_h46_ok n x3 x4 d1 d2 d5 Z v9 Z9 h) x3 x4 v136 d1 d2 Z137 v9 Z9 h
            rw [if_neg hs134] at h
            by_cases hs138 : ((v119).toInt - 1).toNat = 2
            · rw [if_pos hs138] at h
              refine pG_tsi (t := 132) (j := 2) (o := 59) rfl hs121 hs138 rfl rfl ?_
              refine pG_many 2 (pc1 := 134) (L1 := [some (.ref 182), d1, d2, some (.ref x3), some (.int x4), d5]) (st1 := [.ref x3, .ref 182]) (M1 := mjTo Z) rfl ?_
              cases hq139 : f124_readAct x3 Z with
              | none => rw [hq139] at h; cases h
              | some w =>
                obtain ⟨v140, Z141⟩ := w
                rw [hq139, mjBd_some] at h
                refine pG_callV (k2 := 124) (As := [.ref 182, .ref x3]) (rest := []) rfl rfl rfl rfl rfl (by rfl) (by decide) (f124_readAct_ok hq139) ?_
                rintro r9 M9 ⟨rfl, rfl⟩
                show pG 128 137 [some (.ref 182), d1, d2, some (.ref x3), some (.int x4), d5] [.int v140] (mjTo Z141) _
                refine pG_many 2 (pc1 := 179) (L1 := [some (.ref 182), d1, d2, some (.ref x3), some (.int x4), some (.int v140)]) (st1 := []) (M1 := mjTo Z141) rfl ?_
                exact f128_read_j179_ok (f128_read_h46 n) (fun x3 x4 d1 d2 d5 Z v9 Z9 h => f128_read_h46_ok n x3 x4 d1 d2 d5 Z v9 Z9 h) x3 x4 v140 d1 d2 Z141 v9 Z9 h
            rw [if_neg hs138] at h
            by_cases hs142 : ((v119).toInt - 1).toNat = 3
            · rw [if_pos hs142] at h
              refine pG_tsi (t := 142) (j := 3) (o := 69) rfl hs121 hs142 rfl rfl ?_
              refine pG_many 2 (pc1 := 144) (L1 := [some (.ref 182), d1, d2, some (.ref x3), some (.int x4), d5]) (st1 := [.ref x3, .ref 182]) (M1 := mjTo Z) rfl ?_
              cases hq143 : f125_readRule x3 Z with
              | none => rw [hq143] at h; cases h
              | some w =>
                obtain ⟨v144, Z145⟩ := w
                rw [hq143, mjBd_some] at h
                refine pG_callV (k2 := 125) (As := [.ref 182, .ref x3]) (rest := []) rfl rfl rfl rfl rfl (by rfl) (by decide) (f125_readRule_ok hq143) ?_
                rintro r9 M9 ⟨rfl, rfl⟩
                show pG 128 147 [some (.ref 182), d1, d2, some (.ref x3), some (.int x4), d5] [.int v144] (mjTo Z145) _
                refine pG_many 2 (pc1 := 179) (L1 := [some (.ref 182), d1, d2, some (.ref x3), some (.int x4), some (.int v144)]) (st1 := []) (M1 := mjTo Z145) rfl ?_
                exact f128_read_j179_ok (f128_read_h46 n) (fun x3 x4 d1 d2 d5 Z v9 Z9 h => f128_read_h46_ok n x3 x4 d1 d2 d5 Z v9 Z9 h) x3 x4 v144 d1 d2 Z145 v9 Z9 h
            rw [if_neg hs142] at h
            by_cases hs146 : ((v119).toInt - 1).toNat = 4
            · rw [if_pos hs146] at h
              refine pG_tsi (t := 152) (j := 4) (o := 79) rfl hs121 hs146 rfl rfl ?_
              refine pG_many 2 (pc1 := 154) (L1 := [some (.ref 182), d1, d2, some (.ref x3), some (.int x4), d5]) (st1 := [.ref x3, .ref 182]) (M1 := mjTo Z) rfl ?_
              cases hq147 : f126_readThrough x3 Z with
              | none => rw [hq147] at h; cases h
              | some w =>
                obtain ⟨v148, Z149⟩ := w
                rw [hq147, mjBd_some] at h
                refine pG_callV (k2 := 126) (As := [.ref 182, .ref x3]) (rest := []) rfl rfl rfl rfl rfl (by rfl) (by decide) (f126_readThrough_ok hq147) ?_
                rintro r9 M9 ⟨rfl, rfl⟩
                show pG 128 157 [some (.ref 182), d1, d2, some (.ref x3), some (.int x4), d5] [.int v148] (mjTo Z149) _
                refine pG_many 2 (pc1 := 179) (L1 := [some (.ref 182), d1, d2, some (.ref x3), some (.int x4), some (.int v148)]) (st1 := []) (M1 := mjTo Z149) rfl ?_
                exact f128_read_j179_ok (f128_read_h46 n) (fun x3 x4 d1 d2 d5 Z v9 Z9 h => f128_read_h46_ok n x3 x4 d1 d2 d5 Z v9 Z9 h) x3 x4 v148 d1 d2 Z149 v9 Z9 h
            rw [if_neg hs146] at h
            by_cases hs150 : ((v119).toInt - 1).toNat = 5
            · rw [if_pos hs150] at h
              refine pG_tsi (t := 162) (j := 5) (o := 89) rfl hs121 hs150 rfl rfl ?_
              refine pG_many 2 (pc1 := 164) (L1 := [some (.ref 182), d1, d2, some (.ref x3), some (.int x4), d5]) (st1 := [.ref x3, .ref 182]) (M1 := mjTo Z) rfl ?_
              cases hq151 : f127_readWithin x3 Z with
              | none => rw [hq151] at h; cases h
              | some w =>
                obtain ⟨v152, Z153⟩ := w
                rw [hq151, mjBd_some] at h
                refine pG_callV (k2 := 127) (As := [.ref 182, .ref x3]) (rest := []) rfl rfl rfl rfl rfl (by rfl) (by decide) (f127_readWithin_ok hq151) ?_
                rintro r9 M9 ⟨rfl, rfl⟩
                show pG 128 167 [some (.ref 182), d1, d2, some (.ref x3), some (.int x4), d5] [.int v152] (mjTo Z153) _
                refine pG_many 2 (pc1 := 179) (L1 := [some (.ref 182), d1, d2, some (.ref x3), some (.int x4), some (.int v152)]) (st1 := []) (M1 := mjTo Z153) rfl ?_
                exact f128_read_j179_ok (f128_read_h46 n) (fun x3 x4 d1 d2 d5 Z v9 Z9 h => f128_read_h46_ok n x3 x4 d1 d2 d5 Z v9 Z9 h) x3 x4 v152 d1 d2 Z153 v9 Z9 h
            rw [if_neg hs150] at h
            cases h
def f128_read (p0 : Nat) (p1 : Int32) (p2 : Nat) (Z : mjZt) : Option (Int32 × mjZt) :=
  if mjIs p2 251 2 = true then
  mjBd (f15_clear p2 Z) fun _ Z104 =>
  mjLet (zSi Z104 182 2 0) fun Z105 =>
  mjLet (zSi Z105 182 3 0) fun Z106 =>
  mjLet (zSi Z106 182 5 0) fun Z107 =>
  mjLet (zSi Z107 182 6 ((-1))) fun Z108 =>
  mjBd (f113_open p0 p1 Z108) fun _ Z111 =>
  mjBd (f118_readTrack p2 Z111) fun v113 Z114 =>
  if mjCmp .ne v113 0 = true then
    f128_read_h46 mjF p2 0 Z114
  else
    some ((-1), Z114)
  else none
theorem f128_read_ok {p0 : Nat} {p1 : Int32} {p2 : Nat} {Z : mjZt} {v9 : Int32} {Z9 : mjZt} (h : f128_read p0 p1 p2 Z = some (v9, Z9)) : pG 128 0 (mjEnt [.ref 182, .ref p0, .int p1, .ref p2] (mjML 128)) [] (mjTo Z) (fun r M1 => r = some (.int v9) ∧ M1 = mjTo Z9) := by
  unfold f128_read at h
  show pG 128 0 [some (.ref 182), some (.ref p0), some (.int p1), some (.ref p2), none, none] [] (mjTo Z) _
  refine pG_many 1 (pc1 := 1) (L1 := [some (.ref 182), some (.ref p0), some (.int p1), some (.ref p2), none, none]) (st1 := [.ref p2]) (M1 := mjTo Z) rfl ?_
  have hk101 : mjIs p2 251 2 = true := by
    by_cases q9 : mjIs p2 251 2 = true
    · exact q9
    · rw [if_neg q9] at h; cases h
  rw [if_pos hk101] at h
  cases hq102 : f15_clear p2 Z with
  | none => rw [hq102] at h; cases h
  | some w =>
    obtain ⟨v103, Z104⟩ := w
    rw [hq102, mjBd_some] at h
    refine pG_callV (k2 := 15) (As := [.ref p2]) (rest := []) rfl rfl rfl rfl rfl (mjRcv_is hk101 (by decide)) (by decide) (f15_clear_ok hq102) ?_
    rintro r9 M9 ⟨rfl, rfl⟩
    show pG 128 4 [some (.ref 182), some (.ref p0), some (.int p1), some (.ref p2), none, none] [] (mjTo Z104) _
    refine pG_many 2 (pc1 := 6) (L1 := [some (.ref 182), some (.ref p0), some (.int p1), some (.ref p2), none, none]) (st1 := [.int 0, .ref 182]) (M1 := mjTo Z104) rfl ?_
    refine pG_putZ (ci := 6) (f := 2) rfl rfl rfl rfl (by rfl) (Or.inl rfl) ?_
    rw [mjLet] at h
    generalize zSi Z104 182 2 0 = Z105 at h ⊢
    refine pG_many 2 (pc1 := 11) (L1 := [some (.ref 182), some (.ref p0), some (.int p1), some (.ref p2), none, none]) (st1 := [.int 0, .ref 182]) (M1 := mjTo Z105) rfl ?_
    refine pG_putZ (ci := 6) (f := 3) rfl rfl rfl rfl (by rfl) (Or.inl rfl) ?_
    rw [mjLet] at h
    generalize zSi Z105 182 3 0 = Z106 at h ⊢
    refine pG_many 2 (pc1 := 16) (L1 := [some (.ref 182), some (.ref p0), some (.int p1), some (.ref p2), none, none]) (st1 := [.int 0, .ref 182]) (M1 := mjTo Z106) rfl ?_
    refine pG_putI (ci := 6) (f := 5) rfl rfl rfl rfl (by rfl) ?_
    rw [mjLet] at h
    generalize zSi Z106 182 5 0 = Z107 at h ⊢
    refine pG_many 2 (pc1 := 21) (L1 := [some (.ref 182), some (.ref p0), some (.int p1), some (.ref p2), none, none]) (st1 := [.int ((-1)), .ref 182]) (M1 := mjTo Z107) rfl ?_
    refine pG_putI (ci := 6) (f := 6) rfl rfl rfl rfl (by rfl) ?_
    rw [mjLet] at h
    generalize zSi Z107 182 6 ((-1)) = Z108 at h ⊢
    refine pG_many 1 (pc1 := 25) (L1 := [some (.ref 182), some (.ref p0), some (.int p1), some (.ref p2), none, none]) (st1 := [.ref 182]) (M1 := mjTo Z108) rfl ?_
    refine pG_getR (ci := 6) (f := 0) (b := 183) rfl rfl rfl (by rfl) rfl ?_
    refine pG_many 2 (pc1 := 30) (L1 := [some (.ref 182), some (.ref p0), some (.int p1), some (.ref p2), none, none]) (st1 := [.int p1, .ref p0, .ref 183]) (M1 := mjTo Z108) rfl ?_
    cases hq109 : f113_open p0 p1 Z108 with
    | none => rw [hq109] at h; cases h
    | some w =>
      obtain ⟨v110, Z111⟩ := w
      rw [hq109, mjBd_some] at h
      refine pG_callV (k2 := 113) (As := [.ref 183, .ref p0, .int p1]) (rest := []) rfl rfl rfl rfl rfl (by rfl) (by decide) (f113_open_ok hq109) ?_
      rintro r9 M9 ⟨rfl, rfl⟩
      show pG 128 33 [some (.ref 182), some (.ref p0), some (.int p1), some (.ref p2), none, none] [] (mjTo Z111) _
      refine pG_many 2 (pc1 := 35) (L1 := [some (.ref 182), some (.ref p0), some (.int p1), some (.ref p2), none, none]) (st1 := [.ref p2, .ref 182]) (M1 := mjTo Z111) rfl ?_
      cases hq112 : f118_readTrack p2 Z111 with
      | none => rw [hq112] at h; cases h
      | some w =>
        obtain ⟨v113, Z114⟩ := w
        rw [hq112, mjBd_some] at h
        refine pG_callV (k2 := 118) (As := [.ref 182, .ref p2]) (rest := []) rfl rfl rfl rfl rfl (by rfl) (by decide) (f118_readTrack_ok hq112) ?_
        rintro r9 M9 ⟨rfl, rfl⟩
        show pG 128 38 [some (.ref 182), some (.ref p0), some (.int p1), some (.ref p2), none, none] [.int v113] (mjTo Z114) _
        by_cases hc115 : mjCmp .ne v113 0 = true
        · rw [if_pos hc115] at h
          refine pG_ift (t := 43) rfl rfl hc115 ?_
          refine pG_many 2 (pc1 := 46) (L1 := [some (.ref 182), some (.ref p0), some (.int p1), some (.ref p2), some (.int 0), none]) (st1 := []) (M1 := mjTo Z114) rfl ?_
          exact f128_read_h46_ok mjF p2 0 (some (.ref p0)) (some (.int p1)) none Z114 v9 Z9 h
        · rw [if_neg hc115] at h
          refine pG_iff (t := 43) rfl rfl hc115 ?_
          refine pG_many 1 (pc1 := 42) (L1 := [some (.ref 182), some (.ref p0), some (.int p1), some (.ref p2), none, none]) (st1 := [.int ((-1))]) (M1 := mjTo Z114) rfl ?_
          simp only [Option.some.injEq, Prod.mk.injEq] at h
          obtain ⟨rfl, rfl⟩ := h
          exact pG_ret (r := some (.int ((-1)))) rfl ⟨rfl, rfl⟩
def f129_comparisonsOf (a0 : Nat) (p0 : Int32) (p1 : Int32) (Z : mjZt) : Option Int32 :=
  if mjIs a0 251 8 = true then
  mjBp (f76_condition p0 p1 Z) fun v103 =>
  mjBp (f5_at (a0 + 6) v103 Z) fun v106 =>
  some v106
  else none
theorem f129_comparisonsOf_ok {a0 : Nat} {p0 : Int32} {p1 : Int32} {Z : mjZt} {v9 : Int32} (h : f129_comparisonsOf a0 p0 p1 Z = some v9) : pG 129 0 (mjEnt [.ref a0, .int p0, .int p1] (mjML 129)) [] (mjTo Z) (fun r M1 => r = some (.int v9) ∧ M1 = mjTo Z) := by
  unfold f129_comparisonsOf at h
  show pG 129 0 [some (.ref a0), some (.int p0), some (.int p1)] [] (mjTo Z) _
  refine pG_many 1 (pc1 := 1) (L1 := [some (.ref a0), some (.int p0), some (.int p1)]) (st1 := [.ref a0]) (M1 := mjTo Z) rfl ?_
  have hk101 : mjIs a0 251 8 = true := by
    by_cases q9 : mjIs a0 251 8 = true
    · exact q9
    · rw [if_neg q9] at h; cases h
  rw [if_pos hk101] at h
  refine pG_getR (ci := 8) (f := 5) (b := a0 + 6) rfl rfl rfl hk101 (mjRc8_5 hk101) ?_
  refine pG_many 2 (pc1 := 6) (L1 := [some (.ref a0), some (.int p0), some (.int p1)]) (st1 := [.int p1, .int p0, .ref (a0 + 6)]) (M1 := mjTo Z) rfl ?_
  cases hq102 : f76_condition p0 p1 Z with
  | none => rw [hq102] at h; cases h
  | some v103 =>
    rw [hq102, mjBp_some] at h
    refine pG_call (k2 := 76) (As := [.int p0, .int p1]) (rest := [.ref (a0 + 6)]) rfl (by decide) (f76_condition_ok hq102) ?_
    rintro r9 M9 ⟨rfl, rfl⟩
    show pG 129 9 [some (.ref a0), some (.int p0), some (.int p1)] [.int v103, .ref (a0 + 6)] (mjTo Z) _
    cases hq105 : f5_at (a0 + 6) v103 Z with
    | none => rw [hq105] at h; cases h
    | some v106 =>
      rw [hq105, mjBp_some] at h
      refine pG_call (k2 := 5) (As := [.ref (a0 + 6), .int v103]) (rest := []) rfl (by decide) (f5_at_ok hq105) ?_
      rintro r9 M9 ⟨rfl, rfl⟩
      show pG 129 12 [some (.ref a0), some (.int p0), some (.int p1)] [.int v106] (mjTo Z) _
      simp only [Option.some.injEq] at h
      subst h
      exact pG_ret (r := some (.int v106)) rfl ⟨rfl, rfl⟩
def f130_letter (p0 : Int64) (p1 : Int32) (Z : mjZt) : Option Int32 :=
  if mjCmp .lt p1 0 = true then
    some 0
  else
    if mjCmp .lt p1 8 = true then
      some (Int64.toInt32 ((p0 >>> (Int32.toInt64 (5 * p1) &&& 63)) &&& 31))
    else
      some 0
theorem f130_letter_ok {p0 : Int64} {p1 : Int32} {Z : mjZt} {v9 : Int32} (h : f130_letter p0 p1 Z = some v9) : pG 130 0 (mjEnt [.long p0, .int p1] (mjML 130)) [] (mjTo Z) (fun r M1 => r = some (.int v9) ∧ M1 = mjTo Z) := by
  unfold f130_letter at h
  show pG 130 0 [some (.long p0), none, some (.int p1)] [] (mjTo Z) _
  refine pG_many 1 (pc1 := 1) (L1 := [some (.long p0), none, some (.int p1)]) (st1 := [.int p1]) (M1 := mjTo Z) rfl ?_
  by_cases hc101 : mjCmp .lt p1 0 = true
  · rw [if_pos hc101] at h
    refine pG_ift (t := 10) rfl rfl hc101 ?_
    refine pG_many 2 (pc1 := 24) (L1 := [some (.long p0), none, some (.int p1)]) (st1 := [.int 0]) (M1 := mjTo Z) rfl ?_
    simp only [Option.some.injEq] at h
    subst h
    exact pG_ret (r := some (.int 0)) rfl ⟨rfl, rfl⟩
  · rw [if_neg hc101] at h
    refine pG_iff (t := 10) rfl rfl hc101 ?_
    refine pG_many 2 (pc1 := 7) (L1 := [some (.long p0), none, some (.int p1)]) (st1 := [.int 8, .int p1]) (M1 := mjTo Z) rfl ?_
    by_cases hc102 : mjCmp .lt p1 8 = true
    · rw [if_pos hc102] at h
      refine pG_cmt (t := 14) rfl rfl hc102 ?_
      refine pG_many 8 (pc1 := 24) (L1 := [some (.long p0), none, some (.int p1)]) (st1 := [.int (Int64.toInt32 ((p0 >>> (Int32.toInt64 (5 * p1) &&& 63)) &&& 31))]) (M1 := mjTo Z) rfl ?_
      simp only [Option.some.injEq] at h
      subst h
      exact pG_ret (r := some (.int (Int64.toInt32 ((p0 >>> (Int32.toInt64 (5 * p1) &&& 63)) &&& 31)))) rfl ⟨rfl, rfl⟩
    · rw [if_neg hc102] at h
      refine pG_cmf (t := 14) rfl rfl hc102 ?_
      refine pG_many 2 (pc1 := 24) (L1 := [some (.long p0), none, some (.int p1)]) (st1 := [.int 0]) (M1 := mjTo Z) rfl ?_
      simp only [Option.some.injEq] at h
      subst h
      exact pG_ret (r := some (.int 0)) rfl ⟨rfl, rfl⟩
def f132_strike (a0 : Nat) (p0 : Nat) (Z : mjZt) : Option (Unit × mjZt) :=
  if mjIs a0 251 10 = true then
  if mjIs p0 251 0 = true then
  mjLet (zSi Z a0 4 ((Z.1 a0 4) ||| ((1 : Int32) <<< (((Z.1 p0 1) : Int32) &&& 31)))) fun Z103 =>
  if mjCmp .ne (Z103.1 p0 0) 3 = true then
    some ((), Z103)
  else
    if mjCmp .lt (Z103.1 p0 2) 0 = true then
      some ((), Z103)
    else
      if mjCmp .ge (Z103.1 p0 2) 6 = true then
        some ((), Z103)
      else
        mjLet (zSi Z103 a0 6 ((Z103.1 a0 6) ||| ((1 : Int32) <<< (((Z103.1 p0 2) : Int32) &&& 31)))) fun Z107 =>
        if mjIs (a0 + 2) 251 13 = true then
        if mjIn (Z107.1 p0 2) (mjLay (a0 + 2)).2 = true then
        mjLet (zSi Z107 (a0 + 2) (mjIx (Z107.1 p0 2)) ((Z107.1 (a0 + 2) (mjIx (Z107.1 p0 2))) - (Z107.1 p0 4))) fun Z110 =>
        some ((), Z110)
        else none
        else none
  else none
  else none
theorem f132_strike_ok {a0 : Nat} {p0 : Nat} {Z : mjZt} {v9 : Unit} {Z9 : mjZt} (h : f132_strike a0 p0 Z = some (v9, Z9)) : pG 132 0 (mjEnt [.ref a0, .ref p0] (mjML 132)) [] (mjTo Z) (fun r M1 => r = none ∧ M1 = mjTo Z9) := by
  unfold f132_strike at h
  show pG 132 0 [some (.ref a0), some (.ref p0)] [] (mjTo Z) _
  refine pG_many 2 (pc1 := 2) (L1 := [some (.ref a0), some (.ref p0)]) (st1 := [.ref a0, .ref a0]) (M1 := mjTo Z) rfl ?_
  have hk101 : mjIs a0 251 10 = true := by
    by_cases q9 : mjIs a0 251 10 = true
    · exact q9
    · rw [if_neg q9] at h; cases h
  rw [if_pos hk101] at h
  refine pG_getI (ci := 10) (f := 4) rfl rfl (Or.inl rfl) hk101 ?_
  refine pG_many 2 (pc1 := 7) (L1 := [some (.ref a0), some (.ref p0)]) (st1 := [.ref p0, .int 1, .int (Z.1 a0 4), .ref a0]) (M1 := mjTo Z) rfl ?_
  have hk102 : mjIs p0 251 0 = true := by
    by_cases q9 : mjIs p0 251 0 = true
    · exact q9
    · rw [if_neg q9] at h; cases h
  rw [if_pos hk102] at h
  refine pG_getI (ci := 0) (f := 1) rfl rfl (Or.inl rfl) hk102 ?_
  refine pG_many 2 (pc1 := 12) (L1 := [some (.ref a0), some (.ref p0)]) (st1 := [.int ((Z.1 a0 4) ||| ((1 : Int32) <<< (((Z.1 p0 1) : Int32) &&& 31))), .ref a0]) (M1 := mjTo Z) rfl ?_
  refine pG_putI (ci := 10) (f := 4) rfl rfl rfl rfl hk101 ?_
  rw [mjLet] at h
  generalize zSi Z a0 4 ((Z.1 a0 4) ||| ((1 : Int32) <<< (((Z.1 p0 1) : Int32) &&& 31))) = Z103 at h ⊢
  refine pG_many 1 (pc1 := 16) (L1 := [some (.ref a0), some (.ref p0)]) (st1 := [.ref p0]) (M1 := mjTo Z103) rfl ?_
  refine pG_getI (ci := 0) (f := 0) rfl rfl (Or.inl rfl) hk102 ?_
  refine pG_many 1 (pc1 := 20) (L1 := [some (.ref a0), some (.ref p0)]) (st1 := [.int 3, .int (Z103.1 p0 0)]) (M1 := mjTo Z103) rfl ?_
  by_cases hc104 : mjCmp .ne (Z103.1 p0 0) 3 = true
  · rw [if_pos hc104] at h
    refine pG_cmt (t := 70) rfl rfl hc104 ?_
    simp only [Option.some.injEq, Prod.mk.injEq] at h
    obtain ⟨-, rfl⟩ := h
    exact pG_ret (r := none) rfl ⟨rfl, rfl⟩
  · rw [if_neg hc104] at h
    refine pG_cmf (t := 70) rfl rfl hc104 ?_
    refine pG_many 1 (pc1 := 24) (L1 := [some (.ref a0), some (.ref p0)]) (st1 := [.ref p0]) (M1 := mjTo Z103) rfl ?_
    refine pG_getI (ci := 0) (f := 2) rfl rfl (Or.inl rfl) hk102 ?_
    by_cases hc105 : mjCmp .lt (Z103.1 p0 2) 0 = true
    · rw [if_pos hc105] at h
      refine pG_ift (t := 70) rfl rfl hc105 ?_
      simp only [Option.some.injEq, Prod.mk.injEq] at h
      obtain ⟨-, rfl⟩ := h
      exact pG_ret (r := none) rfl ⟨rfl, rfl⟩
    · rw [if_neg hc105] at h
      refine pG_iff (t := 70) rfl rfl hc105 ?_
      refine pG_many 1 (pc1 := 31) (L1 := [some (.ref a0), some (.ref p0)]) (st1 := [.ref p0]) (M1 := mjTo Z103) rfl ?_
      refine pG_getI (ci := 0) (f := 2) rfl rfl (Or.inl rfl) hk102 ?_
      refine pG_many 1 (pc1 := 36) (L1 := [some (.ref a0), some (.ref p0)]) (st1 := [.int 6, .int (Z103.1 p0 2)]) (M1 := mjTo Z103) rfl ?_
      by_cases hc106 : mjCmp .ge (Z103.1 p0 2) 6 = true
      · rw [if_pos hc106] at h
        refine pG_cmt (t := 70) rfl rfl hc106 ?_
        simp only [Option.some.injEq, Prod.mk.injEq] at h
        obtain ⟨-, rfl⟩ := h
        exact pG_ret (r := none) rfl ⟨rfl, rfl⟩
      · rw [if_neg hc106] at h
        refine pG_cmf (t := 70) rfl rfl hc106 ?_
        refine pG_many 2 (pc1 := 41) (L1 := [some (.ref a0), some (.ref p0)]) (st1 := [.ref a0, .ref a0]) (M1 := mjTo Z103) rfl ?_
        refine pG_getI (ci := 10) (f := 6) rfl rfl (Or.inl rfl) hk101 ?_
        refine pG_many 2 (pc1 := 46) (L1 := [some (.ref a0), some (.ref p0)]) (st1 := [.ref p0, .int 1, .int (Z103.1 a0 6), .ref a0]) (M1 := mjTo Z103) rfl ?_
        refine pG_getI (ci := 0) (f := 2) rfl rfl (Or.inl rfl) hk102 ?_
        refine pG_many 2 (pc1 := 51) (L1 := [some (.ref a0), some (.ref p0)]) (st1 := [.int ((Z103.1 a0 6) ||| ((1 : Int32) <<< (((Z103.1 p0 2) : Int32) &&& 31))), .ref a0]) (M1 := mjTo Z103) rfl ?_
        refine pG_putI (ci := 10) (f := 6) rfl rfl rfl rfl hk101 ?_
        rw [mjLet] at h
        generalize zSi Z103 a0 6 ((Z103.1 a0 6) ||| ((1 : Int32) <<< (((Z103.1 p0 2) : Int32) &&& 31))) = Z107 at h ⊢
        refine pG_many 1 (pc1 := 55) (L1 := [some (.ref a0), some (.ref p0)]) (st1 := [.ref a0]) (M1 := mjTo Z107) rfl ?_
        refine pG_getR (ci := 10) (f := 1) (b := a0 + 2) rfl rfl rfl hk101 (mjRc10_1 hk101) ?_
        refine pG_many 1 (pc1 := 59) (L1 := [some (.ref a0), some (.ref p0)]) (st1 := [.ref p0, .ref (a0 + 2)]) (M1 := mjTo Z107) rfl ?_
        refine pG_getI (ci := 0) (f := 2) rfl rfl (Or.inl rfl) hk102 ?_
        refine pG_many 1 (pc1 := 63) (L1 := [some (.ref a0), some (.ref p0)]) (st1 := [.int (Z107.1 p0 2), .ref (a0 + 2), .int (Z107.1 p0 2), .ref (a0 + 2)]) (M1 := mjTo Z107) rfl ?_
        have hk108 : mjIs (a0 + 2) 251 13 = true := by
          by_cases q9 : mjIs (a0 + 2) 251 13 = true
          · exact q9
          · rw [if_neg q9] at h; cases h
        rw [if_pos hk108] at h
        have hk109 : mjIn (Z107.1 p0 2) (mjLay (a0 + 2)).2 = true := by
          by_cases q9 : mjIn (Z107.1 p0 2) (mjLay (a0 + 2)).2 = true
          · exact q9
          · rw [if_neg q9] at h; cases h
        rw [if_pos hk109] at h
        refine pG_ial rfl hk108 hk109 ?_
        refine pG_many 1 (pc1 := 65) (L1 := [some (.ref a0), some (.ref p0)]) (st1 := [.ref p0, .int (Z107.1 (a0 + 2) (mjIx (Z107.1 p0 2))), .int (Z107.1 p0 2), .ref (a0 + 2)]) (M1 := mjTo Z107) rfl ?_
        refine pG_getI (ci := 0) (f := 4) rfl rfl (Or.inl rfl) hk102 ?_
        refine pG_many 1 (pc1 := 69) (L1 := [some (.ref a0), some (.ref p0)]) (st1 := [.int ((Z107.1 (a0 + 2) (mjIx (Z107.1 p0 2))) - (Z107.1 p0 4)), .int (Z107.1 p0 2), .ref (a0 + 2)]) (M1 := mjTo Z107) rfl ?_
        refine pG_ias rfl hk108 hk109 (?_ : pG 132 70 [some (.ref a0), some (.ref p0)] [] (mjTo (zSi Z107 (a0 + 2) (mjIx (Z107.1 p0 2)) ((Z107.1 (a0 + 2) (mjIx (Z107.1 p0 2))) - (Z107.1 p0 4)))) _)
        rw [mjLet] at h
        generalize zSi Z107 (a0 + 2) (mjIx (Z107.1 p0 2)) ((Z107.1 (a0 + 2) (mjIx (Z107.1 p0 2))) - (Z107.1 p0 4)) = Z110 at h ⊢
        simp only [Option.some.injEq, Prod.mk.injEq] at h
        obtain ⟨-, rfl⟩ := h
        exact pG_ret (r := none) rfl ⟨rfl, rfl⟩
def f133_isIn (a0 : Nat) (p0 : Int32) (Z : mjZt) : Option Int32 :=
  if mjIs a0 251 10 = true then
  mjBp (f5_at (a0 + 3) p0 Z) fun v103 =>
  if mjCmp .eq v103 2147483647 = true then
    some 0
  else
    some 1
  else none
theorem f133_isIn_ok {a0 : Nat} {p0 : Int32} {Z : mjZt} {v9 : Int32} (h : f133_isIn a0 p0 Z = some v9) : pG 133 0 (mjEnt [.ref a0, .int p0] (mjML 133)) [] (mjTo Z) (fun r M1 => r = some (.int v9) ∧ M1 = mjTo Z) := by
  unfold f133_isIn at h
  show pG 133 0 [some (.ref a0), some (.int p0)] [] (mjTo Z) _
  refine pG_many 1 (pc1 := 1) (L1 := [some (.ref a0), some (.int p0)]) (st1 := [.ref a0]) (M1 := mjTo Z) rfl ?_
  have hk101 : mjIs a0 251 10 = true := by
    by_cases q9 : mjIs a0 251 10 = true
    · exact q9
    · rw [if_neg q9] at h; cases h
  rw [if_pos hk101] at h
  refine pG_getR (ci := 10) (f := 2) (b := a0 + 3) rfl rfl rfl hk101 (mjRc10_2 hk101) ?_
  refine pG_many 1 (pc1 := 5) (L1 := [some (.ref a0), some (.int p0)]) (st1 := [.int p0, .ref (a0 + 3)]) (M1 := mjTo Z) rfl ?_
  cases hq102 : f5_at (a0 + 3) p0 Z with
  | none => rw [hq102] at h; cases h
  | some v103 =>
    rw [hq102, mjBp_some] at h
    refine pG_call (k2 := 5) (As := [.ref (a0 + 3), .int p0]) (rest := []) rfl (by decide) (f5_at_ok hq102) ?_
    rintro r9 M9 ⟨rfl, rfl⟩
    show pG 133 8 [some (.ref a0), some (.int p0)] [.int v103] (mjTo Z) _
    refine pG_many 1 (pc1 := 10) (L1 := [some (.ref a0), some (.int p0)]) (st1 := [.int 2147483647, .int v103]) (M1 := mjTo Z) rfl ?_
    by_cases hc105 : mjCmp .eq v103 2147483647 = true
    · rw [if_pos hc105] at h
      refine pG_cmt (t := 17) rfl rfl hc105 ?_
      refine pG_many 1 (pc1 := 18) (L1 := [some (.ref a0), some (.int p0)]) (st1 := [.int 0]) (M1 := mjTo Z) rfl ?_
      simp only [Option.some.injEq] at h
      subst h
      exact pG_ret (r := some (.int 0)) rfl ⟨rfl, rfl⟩
    · rw [if_neg hc105] at h
      refine pG_cmf (t := 17) rfl rfl hc105 ?_
      refine pG_many 2 (pc1 := 18) (L1 := [some (.ref a0), some (.int p0)]) (st1 := [.int 1]) (M1 := mjTo Z) rfl ?_
      simp only [Option.some.injEq] at h
      subst h
      exact pG_ret (r := some (.int 1)) rfl ⟨rfl, rfl⟩
def f134_rankOf_h4 : Nat → Nat → Int32 → Int32 → Int32 → mjZt → Option Int32
  | 0, _, _, _, _, _ => none
  | n + 1, x0, x1, x2, x3, Z =>
    if mjCmp .ge x3 6 = true then
      some (1 + x2)
    else
      mjBp (f5_at x0 x3 Z) fun v103 =>
      mjBp (f5_at x0 x1 Z) fun v106 =>
      if mjCmp .ge v103 v106 = true then
        f134_rankOf_h4 n x0 x1 x2 (x3 + 1) Z
      else
        f134_rankOf_h4 n x0 x1 (x2 + 1) (x3 + 1) Z
theorem f134_rankOf_h4_ok : ∀ (n : Nat) (x0 : Nat) (x1 : Int32) (x2 : Int32) (x3 : Int32) (Z : mjZt) (v9 : Int32), f134_rankOf_h4 n x0 x1 x2 x3 Z = some v9 → pG 134 4 [some (.ref x0), some (.int x1), some (.int x2), some (.int x3)] [] (mjTo Z) (fun r M1 => r = some (.int v9) ∧ M1 = mjTo Z)
  | 0, x0, x1, x2, x3, Z, v9, h => by rw [f134_rankOf_h4] at h; cases h
  | n + 1, x0, x1, x2, x3, Z, v9, h => by
      rw [f134_rankOf_h4] at h
      refine pG_many 2 (pc1 := 7) (L1 := [some (.ref x0), some (.int x1), some (.int x2), some (.int x3)]) (st1 := [.int 6, .int x3]) (M1 := mjTo Z) rfl ?_
      by_cases hc101 : mjCmp .ge x3 6 = true
      · rw [if_pos hc101] at h
        refine pG_cmt (t := 32) rfl rfl hc101 ?_
        refine pG_many 3 (pc1 := 35) (L1 := [some (.ref x0), some (.int x1), some (.int x2), some (.int x3)]) (st1 := [.int (1 + x2)]) (M1 := mjTo Z) rfl ?_
        simp only [Option.some.injEq] at h
        subst h
        exact pG_ret (r := some (.int (1 + x2))) rfl ⟨rfl, rfl⟩
      · rw [if_neg hc101] at h
        refine pG_cmf (t := 32) rfl rfl hc101 ?_
        refine pG_many 2 (pc1 := 12) (L1 := [some (.ref x0), some (.int x1), some (.int x2), some (.int x3)]) (st1 := [.int x3, .ref x0]) (M1 := mjTo Z) rfl ?_
        cases hq102 : f5_at x0 x3 Z with
        | none => rw [hq102] at h; cases h
        | some v103 =>
          rw [hq102, mjBp_some] at h
          refine pG_call (k2 := 5) (As := [.ref x0, .int x3]) (rest := []) rfl (by decide) (f5_at_ok hq102) ?_
          rintro r9 M9 ⟨rfl, rfl⟩
          show pG 134 15 [some (.ref x0), some (.int x1), some (.int x2), some (.int x3)] [.int v103] (mjTo Z) _
          refine pG_many 2 (pc1 := 17) (L1 := [some (.ref x0), some (.int x1), some (.int x2), some (.int x3)]) (st1 := [.int x1, .ref x0, .int v103]) (M1 := mjTo Z) rfl ?_
          cases hq105 : f5_at x0 x1 Z with
          | none => rw [hq105] at h; cases h
          | some v106 =>
            rw [hq105, mjBp_some] at h
            refine pG_call (k2 := 5) (As := [.ref x0, .int x1]) (rest := [.int v103]) rfl (by decide) (f5_at_ok hq105) ?_
            rintro r9 M9 ⟨rfl, rfl⟩
            show pG 134 20 [some (.ref x0), some (.int x1), some (.int x2), some (.int x3)] [.int v106, .int v103] (mjTo Z) _
            by_cases hc108 : mjCmp .ge v103 v106 = true
            · rw [if_pos hc108] at h
              refine pG_cmt (t := 26) rfl rfl hc108 ?_
              refine pG_many 2 (pc1 := 4) (L1 := [some (.ref x0), some (.int x1), some (.int x2), some (.int (x3 + 1))]) (st1 := []) (M1 := mjTo Z) rfl ?_
              exact f134_rankOf_h4_ok n x0 x1 x2 (x3 + 1) Z v9 h
            · rw [if_neg hc108] at h
              refine pG_cmf (t := 26) rfl rfl hc108 ?_
              refine pG_many 3 (pc1 := 4) (L1 := [some (.ref x0), some (.int x1), some (.int (x2 + 1)), some (.int (x3 + 1))]) (st1 := []) (M1 := mjTo Z) rfl ?_
              exact f134_rankOf_h4_ok n x0 x1 (x2 + 1) (x3 + 1) Z v9 h
def f134_rankOf (p0 : Nat) (p1 : Int32) (Z : mjZt) : Option Int32 :=
  f134_rankOf_h4 mjF p0 p1 0 0 Z
theorem f134_rankOf_ok {p0 : Nat} {p1 : Int32} {Z : mjZt} {v9 : Int32} (h : f134_rankOf p0 p1 Z = some v9) : pG 134 0 (mjEnt [.ref p0, .int p1] (mjML 134)) [] (mjTo Z) (fun r M1 => r = some (.int v9) ∧ M1 = mjTo Z) := by
  unfold f134_rankOf at h
  show pG 134 0 [some (.ref p0), some (.int p1), none, none] [] (mjTo Z) _
  refine pG_many 4 (pc1 := 4) (L1 := [some (.ref p0), some (.int p1), some (.int 0), some (.int 0)]) (st1 := []) (M1 := mjTo Z) rfl ?_
  exact f134_rankOf_h4_ok mjF p0 p1 0 0 Z v9 h
def f135_decideThrough_j112 (R : Nat → Nat → Int32 → Int32 → mjZt → Option (Unit × mjZt)) (x0 : Nat) (x1 : Nat) (x2 : Int32) (x3 : Int32) (s0 : Int32) (Z : mjZt) : Option (Unit × mjZt) :=
  if mjCmp .eq s0 0 = true then
    R x0 x1 x2 (x3 + 1) Z
  else
    if mjIs x0 251 10 = true then
    if mjIs (x0 + 2) 251 13 = true then
    if mjIn x3 (mjLay (x0 + 2)).2 = true then
    if mjIs x1 251 2 = true then
    if mjCmp .gt (Z.1 (x0 + 2) (mjIx x3)) (x2 + (Z.1 x1 10)) = true then
      R x0 x1 x2 (x3 + 1) Z
    else
      mjLet (zSi Z x0 7 ((Z.1 x0 7) ||| ((1 : Int32) <<< ((x3 : Int32) &&& 31)))) fun Z117 =>
      R x0 x1 x2 (x3 + 1) Z117
    else none
    else none
    else none
    else none
theorem f135_decideThrough_j112_ok (R : Nat → Nat → Int32 → Int32 → mjZt → Option (Unit × mjZt)) (hR : ∀ (x0 : Nat) (x1 : Nat) (x2 : Int32) (x3 : Int32) (d4 : Option Value) (Z : mjZt) (v9 : Unit) (Z9 : mjZt), R x0 x1 x2 x3 Z = some (v9, Z9) → pG 135 74 [some (.ref x0), some (.ref x1), some (.int x2), some (.int x3), d4] [] (mjTo Z) (fun r M1 => r = none ∧ M1 = mjTo Z9)) (x0 : Nat) (x1 : Nat) (x2 : Int32) (x3 : Int32) (s0 : Int32) (d4 : Option Value) (Z : mjZt) (v9 : Unit) (Z9 : mjZt) (h : f135_decideThrough_j112 R x0 x1 x2 x3 s0 Z = some (v9, Z9)) : pG 135 112 [some (.ref x0), some (.ref x1), some (.int x2), some (.int x3), d4] [.int s0] (mjTo Z) (fun r M1 => r = none ∧ M1 = mjTo Z9) := by
  unfold f135_decideThrough_j112 at h
  refine pG_many 2 (pc1 := 116) (L1 := [some (.ref x0), some (.ref x1), some (.int x2), some (.int x3), some (.int s0)]) (st1 := [.int s0]) (M1 := mjTo Z) rfl ?_
  by_cases hc111 : mjCmp .eq s0 0 = true
  · rw [if_pos hc111] at h
    refine pG_ift (t := 146) rfl rfl hc111 ?_
    refine pG_many 2 (pc1 := 74) (L1 := [some (.ref x0), some (.ref x1), some (.int x2), some (.int (x3 + 1)), some (.int s0)]) (st1 := []) (M1 := mjTo Z) rfl ?_
    exact hR x0 x1 x2 (x3 + 1) (some (.int s0)) Z v9 Z9 h
  · rw [if_neg hc111] at h
    refine pG_iff (t := 146) rfl rfl hc111 ?_
    refine pG_many 1 (pc1 := 120) (L1 := [some (.ref x0), some (.ref x1), some (.int x2), some (.int x3), some (.int s0)]) (st1 := [.ref x0]) (M1 := mjTo Z) rfl ?_
    have hk112 : mjIs x0 251 10 = true := by
      by_cases q9 : mjIs x0 251 10 = true
      · exact q9
      · rw [if_neg q9] at h; cases h
    rw [if_pos hk112] at h
    refine pG_getR (ci := 10) (f := 1) (b := x0 + 2) rfl rfl rfl hk112 (mjRc10_1 hk112) ?_
    refine pG_many 1 (pc1 := 124) (L1 := [some (.ref x0), some (.ref x1), some (.int x2), some (.int x3), some (.int s0)]) (st1 := [.int x3, .ref (x0 + 2)]) (M1 := mjTo Z) rfl ?_
    have hk113 : mjIs (x0 + 2) 251 13 = true := by
      by_cases q9 : mjIs (x0 + 2) 251 13 = true
      · exact q9
      · rw [if_neg q9] at h; cases h
    rw [if_pos hk113] at h
    have hk114 : mjIn x3 (mjLay (x0 + 2)).2 = true := by
      by_cases q9 : mjIn x3 (mjLay (x0 + 2)).2 = true
      · exact q9
      · rw [if_neg q9] at h; cases h
    rw [if_pos hk114] at h
    refine pG_ial rfl hk113 hk114 ?_
    refine pG_many 2 (pc1 := 127) (L1 := [some (.ref x0), some (.ref x1), some (.int x2), some (.int x3), some (.int s0)]) (st1 := [.ref x1, .int x2, .int (Z.1 (x0 + 2) (mjIx x3))]) (M1 := mjTo Z) rfl ?_
    have hk115 : mjIs x1 251 2 = true := by
      by_cases q9 : mjIs x1 251 2 = true
      · exact q9
      · rw [if_neg q9] at h; cases h
    rw [if_pos hk115] at h
    refine pG_getI (ci := 2) (f := 10) rfl rfl (Or.inl rfl) hk115 ?_
    refine pG_many 1 (pc1 := 131) (L1 := [some (.ref x0), some (.ref x1), some (.int x2), some (.int x3), some (.int s0)]) (st1 := [.int (x2 + (Z.1 x1 10)), .int (Z.1 (x0 + 2) (mjIx x3))]) (M1 := mjTo Z) rfl ?_
    by_cases hc116 : mjCmp .gt (Z.1 (x0 + 2) (mjIx x3)) (x2 + (Z.1 x1 10)) = true
    · rw [if_pos hc116] at h
      refine pG_cmt (t := 146) rfl rfl hc116 ?_
      refine pG_many 2 (pc1 := 74) (L1 := [some (.ref x0), some (.ref x1), some (.int x2), some (.int (x3 + 1)), some (.int s0)]) (st1 := []) (M1 := mjTo Z) rfl ?_
      exact hR x0 x1 x2 (x3 + 1) (some (.int s0)) Z v9 Z9 h
    · rw [if_neg hc116] at h
      refine pG_cmf (t := 146) rfl rfl hc116 ?_
      refine pG_many 2 (pc1 := 136) (L1 := [some (.ref x0), some (.ref x1), some (.int x2), some (.int x3), some (.int s0)]) (st1 := [.ref x0, .ref x0]) (M1 := mjTo Z) rfl ?_
      refine pG_getI (ci := 10) (f := 7) rfl rfl (Or.inl rfl) hk112 ?_
      refine pG_many 4 (pc1 := 143) (L1 := [some (.ref x0), some (.ref x1), some (.int x2), some (.int x3), some (.int s0)]) (st1 := [.int ((Z.1 x0 7) ||| ((1 : Int32) <<< ((x3 : Int32) &&& 31))), .ref x0]) (M1 := mjTo Z) rfl ?_
      refine pG_putI (ci := 10) (f := 7) rfl rfl rfl rfl hk112 ?_
      rw [mjLet] at h
      generalize zSi Z x0 7 ((Z.1 x0 7) ||| ((1 : Int32) <<< ((x3 : Int32) &&& 31))) = Z117 at h ⊢
      refine pG_many 2 (pc1 := 74) (L1 := [some (.ref x0), some (.ref x1), some (.int x2), some (.int (x3 + 1)), some (.int s0)]) (st1 := []) (M1 := mjTo Z117) rfl ?_
      exact hR x0 x1 x2 (x3 + 1) (some (.int s0)) Z117 v9 Z9 h
def f135_decideThrough_j111 (R : Nat → Nat → Int32 → Int32 → mjZt → Option (Unit × mjZt)) (x0 : Nat) (x1 : Nat) (x2 : Int32) (x3 : Int32) (Z : mjZt) : Option (Unit × mjZt) :=
  f135_decideThrough_j112 R x0 x1 x2 x3 0 Z
theorem f135_decideThrough_j111_ok (R : Nat → Nat → Int32 → Int32 → mjZt → Option (Unit × mjZt)) (hR : ∀ (x0 : Nat) (x1 : Nat) (x2 : Int32) (x3 : Int32) (d4 : Option Value) (Z : mjZt) (v9 : Unit) (Z9 : mjZt), R x0 x1 x2 x3 Z = some (v9, Z9) → pG 135 74 [some (.ref x0), some (.ref x1), some (.int x2), some (.int x3), d4] [] (mjTo Z) (fun r M1 => r = none ∧ M1 = mjTo Z9)) (x0 : Nat) (x1 : Nat) (x2 : Int32) (x3 : Int32) (d4 : Option Value) (Z : mjZt) (v9 : Unit) (Z9 : mjZt) (h : f135_decideThrough_j111 R x0 x1 x2 x3 Z = some (v9, Z9)) : pG 135 111 [some (.ref x0), some (.ref x1), some (.int x2), some (.int x3), d4] [] (mjTo Z) (fun r M1 => r = none ∧ M1 = mjTo Z9) := by
  unfold f135_decideThrough_j111 at h
  refine pG_many 1 (pc1 := 112) (L1 := [some (.ref x0), some (.ref x1), some (.int x2), some (.int x3), d4]) (st1 := [.int 0]) (M1 := mjTo Z) rfl ?_
  exact f135_decideThrough_j112_ok R hR x0 x1 x2 x3 0 d4 Z v9 Z9 h
def f135_decideThrough_h74 : Nat → Nat → Nat → Int32 → Int32 → mjZt → Option (Unit × mjZt)
  | 0, _, _, _, _, _ => none
  | n + 1, x0, x1, x2, x3, Z =>
    if mjCmp .ge x3 6 = true then
      some ((), Z)
    else
      if mjIs x0 251 10 = true then
      mjBp (f133_isIn x0 x3 Z) fun v108 =>
      if mjCmp .eq v108 0 = true then
        f135_decideThrough_j111 (f135_decideThrough_h74 n) x0 x1 x2 x3 Z
      else
        if mjCmp .ne (((((Z.1 x0 6) &&& ((Z.1 x0 5) ^^^ ((-1)))) : Int32) >>> ((x3 : Int32) &&& 31)) &&& 1) 1 = true then
          f135_decideThrough_j111 (f135_decideThrough_h74 n) x0 x1 x2 x3 Z
        else
          f135_decideThrough_j112 (f135_decideThrough_h74 n) x0 x1 x2 x3 1 Z
      else none
theorem f135_decideThrough_h74_ok : ∀ (n : Nat) (x0 : Nat) (x1 : Nat) (x2 : Int32) (x3 : Int32) (d4 : Option Value) (Z : mjZt) (v9 : Unit) (Z9 : mjZt), f135_decideThrough_h74 n x0 x1 x2 x3 Z = some (v9, Z9) → pG 135 74 [some (.ref x0), some (.ref x1), some (.int x2), some (.int x3), d4] [] (mjTo Z) (fun r M1 => r = none ∧ M1 = mjTo Z9)
  | 0, x0, x1, x2, x3, d4, Z, v9, Z9, h => by rw [f135_decideThrough_h74] at h; cases h
  | n + 1, x0, x1, x2, x3, d4, Z, v9, Z9, h => by
      rw [f135_decideThrough_h74] at h
      refine pG_many 2 (pc1 := 77) (L1 := [some (.ref x0), some (.ref x1), some (.int x2), some (.int x3), d4]) (st1 := [.int 6, .int x3]) (M1 := mjTo Z) rfl ?_
      by_cases hc105 : mjCmp .ge x3 6 = true
      · rw [if_pos hc105] at h
        refine pG_cmt (t := 152) rfl rfl hc105 ?_
        simp only [Option.some.injEq, Prod.mk.injEq] at h
        obtain ⟨-, rfl⟩ := h
        exact pG_ret (r := none) rfl ⟨rfl, rfl⟩
      · rw [if_neg hc105] at h
        refine pG_cmf (t := 152) rfl rfl hc105 ?_
        refine pG_many 2 (pc1 := 82) (L1 := [some (.ref x0), some (.ref x1), some (.int x2), some (.int x3), d4]) (st1 := [.int x3, .ref x0]) (M1 := mjTo Z) rfl ?_
        have hk106 : mjIs x0 251 10 = true := by
          by_cases q9 : mjIs x0 251 10 = true
          · exact q9
          · rw [if_neg q9] at h; cases h
        rw [if_pos hk106] at h
        cases hq107 : f133_isIn x0 x3 Z with
        | none => rw [hq107] at h; cases h
        | some v108 =>
          rw [hq107, mjBp_some] at h
          refine pG_callV (k2 := 133) (As := [.ref x0, .int x3]) (rest := []) rfl rfl rfl rfl rfl (mjRcv_is hk106 (by decide)) (by decide) (f133_isIn_ok hq107) ?_
          rintro r9 M9 ⟨rfl, rfl⟩
          show pG 135 85 [some (.ref x0), some (.ref x1), some (.int x2), some (.int x3), d4] [.int v108] (mjTo Z) _
          by_cases hc110 : mjCmp .eq v108 0 = true
          · rw [if_pos hc110] at h
            refine pG_ift (t := 111) rfl rfl hc110 ?_
            exact f135_decideThrough_j111_ok (f135_decideThrough_h74 n) (fun x0 x1 x2 x3 d4 Z v9 Z9 h => f135_decideThrough_h74_ok n x0 x1 x2 x3 d4 Z v9 Z9 h) x0 x1 x2 x3 d4 Z v9 Z9 h
          · rw [if_neg hc110] at h
            refine pG_iff (t := 111) rfl rfl hc110 ?_
            refine pG_many 1 (pc1 := 89) (L1 := [some (.ref x0), some (.ref x1), some (.int x2), some (.int x3), d4]) (st1 := [.ref x0]) (M1 := mjTo Z) rfl ?_
            refine pG_getI (ci := 10) (f := 6) rfl rfl (Or.inl rfl) hk106 ?_
            refine pG_many 1 (pc1 := 93) (L1 := [some (.ref x0), some (.ref x1), some (.int x2), some (.int x3), d4]) (st1 := [.ref x0, .int (Z.1 x0 6)]) (M1 := mjTo Z) rfl ?_
            refine pG_getI (ci := 10) (f := 5) rfl rfl (Or.inl rfl) hk106 ?_
            refine pG_many 8 (pc1 := 104) (L1 := [some (.ref x0), some (.ref x1), some (.int x2), some (.int x3), d4]) (st1 := [.int 1, .int (((((Z.1 x0 6) &&& ((Z.1 x0 5) ^^^ ((-1)))) : Int32) >>> ((x3 : Int32) &&& 31)) &&& 1)]) (M1 := mjTo Z) rfl ?_
            by_cases hc118 : mjCmp .ne (((((Z.1 x0 6) &&& ((Z.1 x0 5) ^^^ ((-1)))) : Int32) >>> ((x3 : Int32) &&& 31)) &&& 1) 1 = true
            · rw [if_pos hc118] at h
              refine pG_cmt (t := 111) rfl rfl hc118 ?_
              exact f135_decideThrough_j111_ok (f135_decideThrough_h74 n) (fun x0 x1 x2 x3 d4 Z v9 Z9 h => f135_decideThrough_h74_ok n x0 x1 x2 x3 d4 Z v9 Z9 h) x0 x1 x2 x3 d4 Z v9 Z9 h
            · rw [if_neg hc118] at h
              refine pG_cmf (t := 111) rfl rfl hc118 ?_
              refine pG_many 2 (pc1 := 112) (L1 := [some (.ref x0), some (.ref x1), some (.int x2), some (.int x3), d4]) (st1 := [.int 1]) (M1 := mjTo Z) rfl ?_
              exact f135_decideThrough_j112_ok (f135_decideThrough_h74 n) (fun x0 x1 x2 x3 d4 Z v9 Z9 h => f135_decideThrough_h74_ok n x0 x1 x2 x3 d4 Z v9 Z9 h) x0 x1 x2 x3 1 d4 Z v9 Z9 h
def f135_decideThrough_h14 : Nat → Nat → Nat → Int32 → Int32 → mjZt → Option (Unit × mjZt)
  | 0, _, _, _, _, _ => none
  | n + 1, x0, x1, x2, x3, Z =>
    if mjCmp .ge x3 6 = true then
      f135_decideThrough_h74 mjF x0 x1 x2 0 Z
    else
      if mjIs x0 251 10 = true then
      mjBp (f133_isIn x0 x3 Z) fun v121 =>
      if mjCmp .eq v121 0 = true then
        f135_decideThrough_h14 n x0 x1 x2 (x3 + 1) Z
      else
        mjBp (f134_rankOf (x0 + 3) x3 Z) fun v125 =>
        if mjIs x1 251 2 = true then
        if mjCmp .gt v125 (Z.1 x1 9) = true then
          f135_decideThrough_h14 n x0 x1 x2 (x3 + 1) Z
        else
          mjLet (zSi Z x0 5 ((Z.1 x0 5) ||| ((1 : Int32) <<< ((x3 : Int32) &&& 31)))) fun Z129 =>
          if mjIs (x0 + 3) 251 13 = true then
          if mjIn x3 (mjLay (x0 + 3)).2 = true then
          f135_decideThrough_h14 n x0 x1 (mjMax x2 (Z129.1 (x0 + 3) (mjIx x3))) (x3 + 1) Z129
          else none
          else none
        else none
      else none
theorem f135_decideThrough_h14_ok : ∀ (n : Nat) (x0 : Nat) (x1 : Nat) (x2 : Int32) (x3 : Int32) (d4 : Option Value) (Z : mjZt) (v9 : Unit) (Z9 : mjZt), f135_decideThrough_h14 n x0 x1 x2 x3 Z = some (v9, Z9) → pG 135 14 [some (.ref x0), some (.ref x1), some (.int x2), some (.int x3), d4] [] (mjTo Z) (fun r M1 => r = none ∧ M1 = mjTo Z9)
  | 0, x0, x1, x2, x3, d4, Z, v9, Z9, h => by rw [f135_decideThrough_h14] at h; cases h
  | n + 1, x0, x1, x2, x3, d4, Z, v9, Z9, h => by
      rw [f135_decideThrough_h14] at h
      refine pG_many 2 (pc1 := 17) (L1 := [some (.ref x0), some (.ref x1), some (.int x2), some (.int x3), d4]) (st1 := [.int 6, .int x3]) (M1 := mjTo Z) rfl ?_
      by_cases hc104 : mjCmp .ge x3 6 = true
      · rw [if_pos hc104] at h
        refine pG_cmt (t := 72) rfl rfl hc104 ?_
        refine pG_many 2 (pc1 := 74) (L1 := [some (.ref x0), some (.ref x1), some (.int x2), some (.int 0), d4]) (st1 := []) (M1 := mjTo Z) rfl ?_
        exact f135_decideThrough_h74_ok mjF x0 x1 x2 0 d4 Z v9 Z9 h
      · rw [if_neg hc104] at h
        refine pG_cmf (t := 72) rfl rfl hc104 ?_
        refine pG_many 2 (pc1 := 22) (L1 := [some (.ref x0), some (.ref x1), some (.int x2), some (.int x3), d4]) (st1 := [.int x3, .ref x0]) (M1 := mjTo Z) rfl ?_
        have hk119 : mjIs x0 251 10 = true := by
          by_cases q9 : mjIs x0 251 10 = true
          · exact q9
          · rw [if_neg q9] at h; cases h
        rw [if_pos hk119] at h
        cases hq120 : f133_isIn x0 x3 Z with
        | none => rw [hq120] at h; cases h
        | some v121 =>
          rw [hq120, mjBp_some] at h
          refine pG_callV (k2 := 133) (As := [.ref x0, .int x3]) (rest := []) rfl rfl rfl rfl rfl (mjRcv_is hk119 (by decide)) (by decide) (f133_isIn_ok hq120) ?_
          rintro r9 M9 ⟨rfl, rfl⟩
          show pG 135 25 [some (.ref x0), some (.ref x1), some (.int x2), some (.int x3), d4] [.int v121] (mjTo Z) _
          by_cases hc123 : mjCmp .eq v121 0 = true
          · rw [if_pos hc123] at h
            refine pG_ift (t := 66) rfl rfl hc123 ?_
            refine pG_many 2 (pc1 := 14) (L1 := [some (.ref x0), some (.ref x1), some (.int x2), some (.int (x3 + 1)), d4]) (st1 := []) (M1 := mjTo Z) rfl ?_
            exact f135_decideThrough_h14_ok n x0 x1 x2 (x3 + 1) d4 Z v9 Z9 h
          · rw [if_neg hc123] at h
            refine pG_iff (t := 66) rfl rfl hc123 ?_
            refine pG_many 1 (pc1 := 29) (L1 := [some (.ref x0), some (.ref x1), some (.int x2), some (.int x3), d4]) (st1 := [.ref x0]) (M1 := mjTo Z) rfl ?_
            refine pG_getR (ci := 10) (f := 2) (b := x0 + 3) rfl rfl rfl hk119 (mjRc10_2 hk119) ?_
            refine pG_many 1 (pc1 := 33) (L1 := [some (.ref x0), some (.ref x1), some (.int x2), some (.int x3), d4]) (st1 := [.int x3, .ref (x0 + 3)]) (M1 := mjTo Z) rfl ?_
            cases hq124 : f134_rankOf (x0 + 3) x3 Z with
            | none => rw [hq124] at h; cases h
            | some v125 =>
              rw [hq124, mjBp_some] at h
              refine pG_call (k2 := 134) (As := [.ref (x0 + 3), .int x3]) (rest := []) rfl (by decide) (f134_rankOf_ok hq124) ?_
              rintro r9 M9 ⟨rfl, rfl⟩
              show pG 135 36 [some (.ref x0), some (.ref x1), some (.int x2), some (.int x3), d4] [.int v125] (mjTo Z) _
              refine pG_many 1 (pc1 := 37) (L1 := [some (.ref x0), some (.ref x1), some (.int x2), some (.int x3), d4]) (st1 := [.ref x1, .int v125]) (M1 := mjTo Z) rfl ?_
              have hk127 : mjIs x1 251 2 = true := by
                by_cases q9 : mjIs x1 251 2 = true
                · exact q9
                · rw [if_neg q9] at h; cases h
              rw [if_pos hk127] at h
              refine pG_getI (ci := 2) (f := 9) rfl rfl (Or.inl rfl) hk127 ?_
              by_cases hc128 : mjCmp .gt v125 (Z.1 x1 9) = true
              · rw [if_pos hc128] at h
                refine pG_cmt (t := 66) rfl rfl hc128 ?_
                refine pG_many 2 (pc1 := 14) (L1 := [some (.ref x0), some (.ref x1), some (.int x2), some (.int (x3 + 1)), d4]) (st1 := []) (M1 := mjTo Z) rfl ?_
                exact f135_decideThrough_h14_ok n x0 x1 x2 (x3 + 1) d4 Z v9 Z9 h
              · rw [if_neg hc128] at h
                refine pG_cmf (t := 66) rfl rfl hc128 ?_
                refine pG_many 2 (pc1 := 45) (L1 := [some (.ref x0), some (.ref x1), some (.int x2), some (.int x3), d4]) (st1 := [.ref x0, .ref x0]) (M1 := mjTo Z) rfl ?_
                refine pG_getI (ci := 10) (f := 5) rfl rfl (Or.inl rfl) hk119 ?_
                refine pG_many 4 (pc1 := 52) (L1 := [some (.ref x0), some (.ref x1), some (.int x2), some (.int x3), d4]) (st1 := [.int ((Z.1 x0 5) ||| ((1 : Int32) <<< ((x3 : Int32) &&& 31))), .ref x0]) (M1 := mjTo Z) rfl ?_
                refine pG_putI (ci := 10) (f := 5) rfl rfl rfl rfl hk119 ?_
                rw [mjLet] at h
                generalize zSi Z x0 5 ((Z.1 x0 5) ||| ((1 : Int32) <<< ((x3 : Int32) &&& 31))) = Z129 at h ⊢
                refine pG_many 2 (pc1 := 57) (L1 := [some (.ref x0), some (.ref x1), some (.int x2), some (.int x3), d4]) (st1 := [.ref x0, .int x2]) (M1 := mjTo Z129) rfl ?_
                refine pG_getR (ci := 10) (f := 2) (b := x0 + 3) rfl rfl rfl hk119 (mjRc10_2 hk119) ?_
                refine pG_many 1 (pc1 := 61) (L1 := [some (.ref x0), some (.ref x1), some (.int x2), some (.int x3), d4]) (st1 := [.int x3, .ref (x0 + 3), .int x2]) (M1 := mjTo Z129) rfl ?_
                have hk130 : mjIs (x0 + 3) 251 13 = true := by
                  by_cases q9 : mjIs (x0 + 3) 251 13 = true
                  · exact q9
                  · rw [if_neg q9] at h; cases h
                rw [if_pos hk130] at h
                have hk131 : mjIn x3 (mjLay (x0 + 3)).2 = true := by
                  by_cases q9 : mjIn x3 (mjLay (x0 + 3)).2 = true
                  · exact q9
                  · rw [if_neg q9] at h; cases h
                rw [if_pos hk131] at h
                refine pG_ial rfl hk130 hk131 ?_
                refine pG_prim (v := .int (mjMax x2 (Z129.1 (x0 + 3) (mjIx x3)))) rfl (by decide) rfl ?_
                refine pG_many 3 (pc1 := 14) (L1 := [some (.ref x0), some (.ref x1), some (.int (mjMax x2 (Z129.1 (x0 + 3) (mjIx x3)))), some (.int (x3 + 1)), d4]) (st1 := []) (M1 := mjTo Z129) rfl ?_
                exact f135_decideThrough_h14_ok n x0 x1 (mjMax x2 (Z129.1 (x0 + 3) (mjIx x3))) (x3 + 1) d4 Z129 v9 Z9 h
def f135_decideThrough (a0 : Nat) (p0 : Nat) (Z : mjZt) : Option (Unit × mjZt) :=
  if mjIs a0 251 10 = true then
  mjLet (zSi Z a0 5 0) fun Z102 =>
  mjLet (zSi Z102 a0 7 0) fun Z103 =>
  f135_decideThrough_h14 mjF a0 p0 0 0 Z103
  else none
theorem f135_decideThrough_ok {a0 : Nat} {p0 : Nat} {Z : mjZt} {v9 : Unit} {Z9 : mjZt} (h : f135_decideThrough a0 p0 Z = some (v9, Z9)) : pG 135 0 (mjEnt [.ref a0, .ref p0] (mjML 135)) [] (mjTo Z) (fun r M1 => r = none ∧ M1 = mjTo Z9) := by
  unfold f135_decideThrough at h
  show pG 135 0 [some (.ref a0), some (.ref p0), none, none, none] [] (mjTo Z) _
  refine pG_many 2 (pc1 := 2) (L1 := [some (.ref a0), some (.ref p0), none, none, none]) (st1 := [.int 0, .ref a0]) (M1 := mjTo Z) rfl ?_
  have hk101 : mjIs a0 251 10 = true := by
    by_cases q9 : mjIs a0 251 10 = true
    · exact q9
    · rw [if_neg q9] at h; cases h
  rw [if_pos hk101] at h
  refine pG_putI (ci := 10) (f := 5) rfl rfl rfl rfl hk101 ?_
  rw [mjLet] at h
  generalize zSi Z a0 5 0 = Z102 at h ⊢
  refine pG_many 2 (pc1 := 7) (L1 := [some (.ref a0), some (.ref p0), none, none, none]) (st1 := [.int 0, .ref a0]) (M1 := mjTo Z102) rfl ?_
  refine pG_putI (ci := 10) (f := 7) rfl rfl rfl rfl hk101 ?_
  rw [mjLet] at h
  generalize zSi Z102 a0 7 0 = Z103 at h ⊢
  refine pG_many 4 (pc1 := 14) (L1 := [some (.ref a0), some (.ref p0), some (.int 0), some (.int 0), none]) (st1 := []) (M1 := mjTo Z103) rfl ?_
  exact f135_decideThrough_h14_ok mjF a0 p0 0 0 none Z103 v9 Z9 h
def f136_decide_j227 (R : Nat → Nat → Int32 → mjZt → Option (Unit × mjZt)) (x0 : Nat) (x1 : Nat) (x5 : Int32) (x7 : Int32) (s0 : Nat) (s1 : Int32) (s2 : Int32) (Z : mjZt) : Option (Unit × mjZt) :=
  if mjIs s0 251 13 = true then
  if mjIn s1 (mjLay s0).2 = true then
  mjLet (zSi Z s0 (mjIx s1) s2) fun Z128 =>
  if mjIs x0 251 10 = true then
  if mjCmp .eq x7 0 = true then
    if mjIs (x0 + 4) 251 13 = true then
    if mjIn x5 (mjLay (x0 + 4)).2 = true then
    mjLet (zSi Z128 (x0 + 4) (mjIx x5) 2147483647) fun Z133 =>
    R x0 x1 (x5 + 1) Z133
    else none
    else none
  else
    if mjIs (x0 + 2) 251 13 = true then
    if mjIn x5 (mjLay (x0 + 2)).2 = true then
    if mjIs (x0 + 4) 251 13 = true then
    if mjIn x5 (mjLay (x0 + 4)).2 = true then
    mjLet (zSi Z128 (x0 + 4) (mjIx x5) (Z128.1 (x0 + 2) (mjIx x5))) fun Z138 =>
    R x0 x1 (x5 + 1) Z138
    else none
    else none
    else none
    else none
  else none
  else none
  else none
theorem f136_decide_j227_ok (R : Nat → Nat → Int32 → mjZt → Option (Unit × mjZt)) (hR : ∀ (x0 : Nat) (x1 : Nat) (x5 : Int32) (d2 d3 d4 d6 d7 : Option Value) (Z : mjZt) (v9 : Unit) (Z9 : mjZt), R x0 x1 x5 Z = some (v9, Z9) → pG 136 124 [some (.ref x0), some (.ref x1), d2, d3, d4, some (.int x5), d6, d7] [] (mjTo Z) (fun r M1 => r = none ∧ M1 = mjTo Z9)) (x0 : Nat) (x1 : Nat) (x5 : Int32) (x7 : Int32) (s0 : Nat) (s1 : Int32) (s2 : Int32) (d2 d3 d4 d6 : Option Value) (Z : mjZt) (v9 : Unit) (Z9 : mjZt) (h : f136_decide_j227 R x0 x1 x5 x7 s0 s1 s2 Z = some (v9, Z9)) : pG 136 227 [some (.ref x0), some (.ref x1), d2, d3, d4, some (.int x5), d6, some (.int x7)] [.int s2, .int s1, .ref s0] (mjTo Z) (fun r M1 => r = none ∧ M1 = mjTo Z9) := by
  unfold f136_decide_j227 at h
  have hk126 : mjIs s0 251 13 = true := by
    by_cases q9 : mjIs s0 251 13 = true
    · exact q9
    · rw [if_neg q9] at h; cases h
  rw [if_pos hk126] at h
  have hk127 : mjIn s1 (mjLay s0).2 = true := by
    by_cases q9 : mjIn s1 (mjLay s0).2 = true
    · exact q9
    · rw [if_neg q9] at h; cases h
  rw [if_pos hk127] at h
  refine pG_ias rfl hk126 hk127 (?_ : pG 136 228 [some (.ref x0), some (.ref x1), d2, d3, d4, some (.int x5), d6, some (.int x7)] [] (mjTo (zSi Z s0 (mjIx s1) s2)) _)
  rw [mjLet] at h
  generalize zSi Z s0 (mjIx s1) s2 = Z128 at h ⊢
  refine pG_many 1 (pc1 := 229) (L1 := [some (.ref x0), some (.ref x1), d2, d3, d4, some (.int x5), d6, some (.int x7)]) (st1 := [.ref x0]) (M1 := mjTo Z128) rfl ?_
  have hk129 : mjIs x0 251 10 = true := by
    by_cases q9 : mjIs x0 251 10 = true
    · exact q9
    · rw [if_neg q9] at h; cases h
  rw [if_pos hk129] at h
  refine pG_getR (ci := 10) (f := 3) (b := x0 + 4) rfl rfl rfl hk129 (mjRc10_3 hk129) ?_
  refine pG_many 2 (pc1 := 236) (L1 := [some (.ref x0), some (.ref x1), d2, d3, d4, some (.int x5), d6, some (.int x7)]) (st1 := [.int x7, .int x5, .ref (x0 + 4)]) (M1 := mjTo Z128) rfl ?_
  by_cases hc130 : mjCmp .eq x7 0 = true
  · rw [if_pos hc130] at h
    refine pG_ift (t := 249) rfl rfl hc130 ?_
    refine pG_many 1 (pc1 := 251) (L1 := [some (.ref x0), some (.ref x1), d2, d3, d4, some (.int x5), d6, some (.int x7)]) (st1 := [.int 2147483647, .int x5, .ref (x0 + 4)]) (M1 := mjTo Z128) rfl ?_
    have hk131 : mjIs (x0 + 4) 251 13 = true := by
      by_cases q9 : mjIs (x0 + 4) 251 13 = true
      · exact q9
      · rw [if_neg q9] at h; cases h
    rw [if_pos hk131] at h
    have hk132 : mjIn x5 (mjLay (x0 + 4)).2 = true := by
      by_cases q9 : mjIn x5 (mjLay (x0 + 4)).2 = true
      · exact q9
      · rw [if_neg q9] at h; cases h
    rw [if_pos hk132] at h
    refine pG_ias rfl hk131 hk132 (?_ : pG 136 252 [some (.ref x0), some (.ref x1), d2, d3, d4, some (.int x5), d6, some (.int x7)] [] (mjTo (zSi Z128 (x0 + 4) (mjIx x5) 2147483647)) _)
    rw [mjLet] at h
    generalize zSi Z128 (x0 + 4) (mjIx x5) 2147483647 = Z133 at h ⊢
    refine pG_many 2 (pc1 := 124) (L1 := [some (.ref x0), some (.ref x1), d2, d3, (mjK1 d4), some (.int (x5 + 1)), d6, some (.int x7)]) (st1 := []) (M1 := mjTo Z133) rfl ?_
    exact hR x0 x1 (x5 + 1) d2 d3 ((mjK1 d4)) d6 (some (.int x7)) Z133 v9 Z9 h
  · rw [if_neg hc130] at h
    refine pG_iff (t := 249) rfl rfl hc130 ?_
    refine pG_many 1 (pc1 := 240) (L1 := [some (.ref x0), some (.ref x1), d2, d3, d4, some (.int x5), d6, some (.int x7)]) (st1 := [.ref x0, .int x5, .ref (x0 + 4)]) (M1 := mjTo Z128) rfl ?_
    refine pG_getR (ci := 10) (f := 1) (b := x0 + 2) rfl rfl rfl hk129 (mjRc10_1 hk129) ?_
    refine pG_many 1 (pc1 := 245) (L1 := [some (.ref x0), some (.ref x1), d2, d3, d4, some (.int x5), d6, some (.int x7)]) (st1 := [.int x5, .ref (x0 + 2), .int x5, .ref (x0 + 4)]) (M1 := mjTo Z128) rfl ?_
    have hk134 : mjIs (x0 + 2) 251 13 = true := by
      by_cases q9 : mjIs (x0 + 2) 251 13 = true
      · exact q9
      · rw [if_neg q9] at h; cases h
    rw [if_pos hk134] at h
    have hk135 : mjIn x5 (mjLay (x0 + 2)).2 = true := by
      by_cases q9 : mjIn x5 (mjLay (x0 + 2)).2 = true
      · exact q9
      · rw [if_neg q9] at h; cases h
    rw [if_pos hk135] at h
    refine pG_ial rfl hk134 hk135 ?_
    refine pG_many 1 (pc1 := 251) (L1 := [some (.ref x0), some (.ref x1), d2, d3, d4, some (.int x5), d6, some (.int x7)]) (st1 := [.int (Z128.1 (x0 + 2) (mjIx x5)), .int x5, .ref (x0 + 4)]) (M1 := mjTo Z128) rfl ?_
    have hk136 : mjIs (x0 + 4) 251 13 = true := by
      by_cases q9 : mjIs (x0 + 4) 251 13 = true
      · exact q9
      · rw [if_neg q9] at h; cases h
    rw [if_pos hk136] at h
    have hk137 : mjIn x5 (mjLay (x0 + 4)).2 = true := by
      by_cases q9 : mjIn x5 (mjLay (x0 + 4)).2 = true
      · exact q9
      · rw [if_neg q9] at h; cases h
    rw [if_pos hk137] at h
    refine pG_ias rfl hk136 hk137 (?_ : pG 136 252 [some (.ref x0), some (.ref x1), d2, d3, d4, some (.int x5), d6, some (.int x7)] [] (mjTo (zSi Z128 (x0 + 4) (mjIx x5) (Z128.1 (x0 + 2) (mjIx x5)))) _)
    rw [mjLet] at h
    generalize zSi Z128 (x0 + 4) (mjIx x5) (Z128.1 (x0 + 2) (mjIx x5)) = Z138 at h ⊢
    refine pG_many 2 (pc1 := 124) (L1 := [some (.ref x0), some (.ref x1), d2, d3, (mjK1 d4), some (.int (x5 + 1)), d6, some (.int x7)]) (st1 := []) (M1 := mjTo Z138) rfl ?_
    exact hR x0 x1 (x5 + 1) d2 d3 ((mjK1 d4)) d6 (some (.int x7)) Z138 v9 Z9 h
def f136_decide_j198 (R : Nat → Nat → Int32 → mjZt → Option (Unit × mjZt)) (x0 : Nat) (x1 : Nat) (x5 : Int32) (x7 : Int32) (s0 : Nat) (s1 : Int32) (s2 : Int32) (Z : mjZt) : Option (Unit × mjZt) :=
  if mjIs s0 251 10 = true then
  mjLet (zSi Z s0 8 (s1 ||| s2)) fun Z123 =>
  if mjIs x0 251 10 = true then
  if mjCmp .eq x7 0 = true then
    f136_decide_j227 R x0 x1 x5 x7 (x0 + 3) x5 2147483647 Z123
  else
    if mjIs x1 251 2 = true then
    mjBp (f8_runner x1 x5 Z123) fun v141 =>
    if mjIs v141 251 7 = true then
    mjBp (f99_time v141 Z123) fun v145 =>
    f136_decide_j227 R x0 x1 x5 x7 (x0 + 3) x5 v145 Z123
    else none
    else none
  else none
  else none
theorem f136_decide_j198_ok (R : Nat → Nat → Int32 → mjZt → Option (Unit × mjZt)) (hR : ∀ (x0 : Nat) (x1 : Nat) (x5 : Int32) (d2 d3 d4 d6 d7 : Option Value) (Z : mjZt) (v9 : Unit) (Z9 : mjZt), R x0 x1 x5 Z = some (v9, Z9) → pG 136 124 [some (.ref x0), some (.ref x1), d2, d3, d4, some (.int x5), d6, d7] [] (mjTo Z) (fun r M1 => r = none ∧ M1 = mjTo Z9)) (x0 : Nat) (x1 : Nat) (x5 : Int32) (x7 : Int32) (s0 : Nat) (s1 : Int32) (s2 : Int32) (d2 d3 d4 d6 : Option Value) (Z : mjZt) (v9 : Unit) (Z9 : mjZt) (h : f136_decide_j198 R x0 x1 x5 x7 s0 s1 s2 Z = some (v9, Z9)) : pG 136 198 [some (.ref x0), some (.ref x1), d2, d3, d4, some (.int x5), d6, some (.int x7)] [.int s2, .int s1, .ref s0] (mjTo Z) (fun r M1 => r = none ∧ M1 = mjTo Z9) := by
  unfold f136_decide_j198 at h
  refine pG_many 1 (pc1 := 199) (L1 := [some (.ref x0), some (.ref x1), d2, d3, d4, some (.int x5), d6, some (.int x7)]) (st1 := [.int (s1 ||| s2), .ref s0]) (M1 := mjTo Z) rfl ?_
  have hk122 : mjIs s0 251 10 = true := by
    by_cases q9 : mjIs s0 251 10 = true
    · exact q9
    · rw [if_neg q9] at h; cases h
  rw [if_pos hk122] at h
  refine pG_putI (ci := 10) (f := 8) rfl rfl rfl rfl hk122 ?_
  rw [mjLet] at h
  generalize zSi Z s0 8 (s1 ||| s2) = Z123 at h ⊢
  refine pG_many 1 (pc1 := 203) (L1 := [some (.ref x0), some (.ref x1), d2, d3, d4, some (.int x5), d6, some (.int x7)]) (st1 := [.ref x0]) (M1 := mjTo Z123) rfl ?_
  have hk124 : mjIs x0 251 10 = true := by
    by_cases q9 : mjIs x0 251 10 = true
    · exact q9
    · rw [if_neg q9] at h; cases h
  rw [if_pos hk124] at h
  refine pG_getR (ci := 10) (f := 2) (b := x0 + 3) rfl rfl rfl hk124 (mjRc10_2 hk124) ?_
  refine pG_many 2 (pc1 := 210) (L1 := [some (.ref x0), some (.ref x1), d2, d3, d4, some (.int x5), d6, some (.int x7)]) (st1 := [.int x7, .int x5, .ref (x0 + 3)]) (M1 := mjTo Z123) rfl ?_
  by_cases hc125 : mjCmp .eq x7 0 = true
  · rw [if_pos hc125] at h
    refine pG_ift (t := 225) rfl rfl hc125 ?_
    refine pG_many 1 (pc1 := 227) (L1 := [some (.ref x0), some (.ref x1), d2, d3, d4, some (.int x5), d6, some (.int x7)]) (st1 := [.int 2147483647, .int x5, .ref (x0 + 3)]) (M1 := mjTo Z123) rfl ?_
    exact f136_decide_j227_ok R hR x0 x1 x5 x7 (x0 + 3) x5 2147483647 d2 d3 d4 d6 Z123 v9 Z9 h
  · rw [if_neg hc125] at h
    refine pG_iff (t := 225) rfl rfl hc125 ?_
    refine pG_many 2 (pc1 := 216) (L1 := [some (.ref x0), some (.ref x1), d2, d3, d4, some (.int x5), d6, some (.int x7)]) (st1 := [.int x5, .ref x1, .int x5, .ref (x0 + 3)]) (M1 := mjTo Z123) rfl ?_
    have hk139 : mjIs x1 251 2 = true := by
      by_cases q9 : mjIs x1 251 2 = true
      · exact q9
      · rw [if_neg q9] at h; cases h
    rw [if_pos hk139] at h
    cases hq140 : f8_runner x1 x5 Z123 with
    | none => rw [hq140] at h; cases h
    | some v141 =>
      rw [hq140, mjBp_some] at h
      refine pG_callV (k2 := 8) (As := [.ref x1, .int x5]) (rest := [.int x5, .ref (x0 + 3)]) rfl rfl rfl rfl rfl (mjRcv_is hk139 (by decide)) (by decide) (f8_runner_ok hq140) ?_
      rintro r9 M9 ⟨rfl, rfl⟩
      show pG 136 219 [some (.ref x0), some (.ref x1), d2, d3, d4, some (.int x5), d6, some (.int x7)] [.ref v141, .int x5, .ref (x0 + 3)] (mjTo Z123) _
      have hk143 : mjIs v141 251 7 = true := by
        by_cases q9 : mjIs v141 251 7 = true
        · exact q9
        · rw [if_neg q9] at h; cases h
      rw [if_pos hk143] at h
      cases hq144 : f99_time v141 Z123 with
      | none => rw [hq144] at h; cases h
      | some v145 =>
        rw [hq144, mjBp_some] at h
        refine pG_callV (k2 := 99) (As := [.ref v141]) (rest := [.int x5, .ref (x0 + 3)]) rfl rfl rfl rfl rfl (mjRcv_is hk143 (by decide)) (by decide) (f99_time_ok hq144) ?_
        rintro r9 M9 ⟨rfl, rfl⟩
        show pG 136 222 [some (.ref x0), some (.ref x1), d2, d3, d4, some (.int x5), d6, some (.int x7)] [.int v145, .int x5, .ref (x0 + 3)] (mjTo Z123) _
        refine pG_many 1 (pc1 := 227) (L1 := [some (.ref x0), some (.ref x1), d2, d3, d4, some (.int x5), d6, some (.int x7)]) (st1 := [.int v145, .int x5, .ref (x0 + 3)]) (M1 := mjTo Z123) rfl ?_
        exact f136_decide_j227_ok R hR x0 x1 x5 x7 (x0 + 3) x5 v145 d2 d3 d4 d6 Z123 v9 Z9 h
def f136_decide_j178 (R : Nat → Nat → Int32 → mjZt → Option (Unit × mjZt)) (x0 : Nat) (x1 : Nat) (x5 : Int32) (x6 : Int32) (s0 : Int32) (Z : mjZt) : Option (Unit × mjZt) :=
  if mjIs x0 251 10 = true then
  if mjCmp .eq x6 0 = true then
    f136_decide_j198 R x0 x1 x5 s0 x0 (Z.1 x0 8) 0 Z
  else
    f136_decide_j198 R x0 x1 x5 s0 x0 (Z.1 x0 8) ((1 : Int32) <<< ((x5 : Int32) &&& 31)) Z
  else none
theorem f136_decide_j178_ok (R : Nat → Nat → Int32 → mjZt → Option (Unit × mjZt)) (hR : ∀ (x0 : Nat) (x1 : Nat) (x5 : Int32) (d2 d3 d4 d6 d7 : Option Value) (Z : mjZt) (v9 : Unit) (Z9 : mjZt), R x0 x1 x5 Z = some (v9, Z9) → pG 136 124 [some (.ref x0), some (.ref x1), d2, d3, d4, some (.int x5), d6, d7] [] (mjTo Z) (fun r M1 => r = none ∧ M1 = mjTo Z9)) (x0 : Nat) (x1 : Nat) (x5 : Int32) (x6 : Int32) (s0 : Int32) (d2 d3 d4 d7 : Option Value) (Z : mjZt) (v9 : Unit) (Z9 : mjZt) (h : f136_decide_j178 R x0 x1 x5 x6 s0 Z = some (v9, Z9)) : pG 136 178 [some (.ref x0), some (.ref x1), d2, d3, d4, some (.int x5), some (.int x6), d7] [.int s0] (mjTo Z) (fun r M1 => r = none ∧ M1 = mjTo Z9) := by
  unfold f136_decide_j178 at h
  refine pG_many 3 (pc1 := 182) (L1 := [some (.ref x0), some (.ref x1), d2, d3, d4, some (.int x5), some (.int x6), some (.int s0)]) (st1 := [.ref x0, .ref x0]) (M1 := mjTo Z) rfl ?_
  have hk120 : mjIs x0 251 10 = true := by
    by_cases q9 : mjIs x0 251 10 = true
    · exact q9
    · rw [if_neg q9] at h; cases h
  rw [if_pos hk120] at h
  refine pG_getI (ci := 10) (f := 8) rfl rfl (Or.inl rfl) hk120 ?_
  refine pG_many 1 (pc1 := 187) (L1 := [some (.ref x0), some (.ref x1), d2, d3, d4, some (.int x5), some (.int x6), some (.int s0)]) (st1 := [.int x6, .int (Z.1 x0 8), .ref x0]) (M1 := mjTo Z) rfl ?_
  by_cases hc121 : mjCmp .eq x6 0 = true
  · rw [if_pos hc121] at h
    refine pG_ift (t := 197) rfl rfl hc121 ?_
    refine pG_many 1 (pc1 := 198) (L1 := [some (.ref x0), some (.ref x1), d2, d3, d4, some (.int x5), some (.int x6), some (.int s0)]) (st1 := [.int 0, .int (Z.1 x0 8), .ref x0]) (M1 := mjTo Z) rfl ?_
    exact f136_decide_j198_ok R hR x0 x1 x5 s0 x0 (Z.1 x0 8) 0 d2 d3 d4 (some (.int x6)) Z v9 Z9 h
  · rw [if_neg hc121] at h
    refine pG_iff (t := 197) rfl rfl hc121 ?_
    refine pG_many 4 (pc1 := 198) (L1 := [some (.ref x0), some (.ref x1), d2, d3, d4, some (.int x5), some (.int x6), some (.int s0)]) (st1 := [.int ((1 : Int32) <<< ((x5 : Int32) &&& 31)), .int (Z.1 x0 8), .ref x0]) (M1 := mjTo Z) rfl ?_
    exact f136_decide_j198_ok R hR x0 x1 x5 s0 x0 (Z.1 x0 8) ((1 : Int32) <<< ((x5 : Int32) &&& 31)) d2 d3 d4 (some (.int x6)) Z v9 Z9 h
def f136_decide_j177 (R : Nat → Nat → Int32 → mjZt → Option (Unit × mjZt)) (x0 : Nat) (x1 : Nat) (x5 : Int32) (x6 : Int32) (Z : mjZt) : Option (Unit × mjZt) :=
  f136_decide_j178 R x0 x1 x5 x6 0 Z
theorem f136_decide_j177_ok (R : Nat → Nat → Int32 → mjZt → Option (Unit × mjZt)) (hR : ∀ (x0 : Nat) (x1 : Nat) (x5 : Int32) (d2 d3 d4 d6 d7 : Option Value) (Z : mjZt) (v9 : Unit) (Z9 : mjZt), R x0 x1 x5 Z = some (v9, Z9) → pG 136 124 [some (.ref x0), some (.ref x1), d2, d3, d4, some (.int x5), d6, d7] [] (mjTo Z) (fun r M1 => r = none ∧ M1 = mjTo Z9)) (x0 : Nat) (x1 : Nat) (x5 : Int32) (x6 : Int32) (d2 d3 d4 d7 : Option Value) (Z : mjZt) (v9 : Unit) (Z9 : mjZt) (h : f136_decide_j177 R x0 x1 x5 x6 Z = some (v9, Z9)) : pG 136 177 [some (.ref x0), some (.ref x1), d2, d3, d4, some (.int x5), some (.int x6), d7] [] (mjTo Z) (fun r M1 => r = none ∧ M1 = mjTo Z9) := by
  unfold f136_decide_j177 at h
  refine pG_many 1 (pc1 := 178) (L1 := [some (.ref x0), some (.ref x1), d2, d3, d4, some (.int x5), some (.int x6), d7]) (st1 := [.int 0]) (M1 := mjTo Z) rfl ?_
  exact f136_decide_j178_ok R hR x0 x1 x5 x6 0 d2 d3 d4 d7 Z v9 Z9 h
def f136_decide_j154 (R : Nat → Nat → Int32 → mjZt → Option (Unit × mjZt)) (x0 : Nat) (x1 : Nat) (x5 : Int32) (s0 : Int32) (Z : mjZt) : Option (Unit × mjZt) :=
  if mjCmp .eq s0 0 = true then
    f136_decide_j177 R x0 x1 x5 s0 Z
  else
    if mjIs x0 251 10 = true then
    if mjCmp .ne ((((Z.1 x0 4) : Int32) >>> ((x5 : Int32) &&& 31)) &&& 1) 0 = true then
      f136_decide_j177 R x0 x1 x5 s0 Z
    else
      f136_decide_j178 R x0 x1 x5 s0 1 Z
    else none
theorem f136_decide_j154_ok (R : Nat → Nat → Int32 → mjZt → Option (Unit × mjZt)) (hR : ∀ (x0 : Nat) (x1 : Nat) (x5 : Int32) (d2 d3 d4 d6 d7 : Option Value) (Z : mjZt) (v9 : Unit) (Z9 : mjZt), R x0 x1 x5 Z = some (v9, Z9) → pG 136 124 [some (.ref x0), some (.ref x1), d2, d3, d4, some (.int x5), d6, d7] [] (mjTo Z) (fun r M1 => r = none ∧ M1 = mjTo Z9)) (x0 : Nat) (x1 : Nat) (x5 : Int32) (s0 : Int32) (d2 d3 d4 d6 d7 : Option Value) (Z : mjZt) (v9 : Unit) (Z9 : mjZt) (h : f136_decide_j154 R x0 x1 x5 s0 Z = some (v9, Z9)) : pG 136 154 [some (.ref x0), some (.ref x1), d2, d3, d4, some (.int x5), d6, d7] [.int s0] (mjTo Z) (fun r M1 => r = none ∧ M1 = mjTo Z9) := by
  unfold f136_decide_j154 at h
  refine pG_many 2 (pc1 := 158) (L1 := [some (.ref x0), some (.ref x1), d2, d3, d4, some (.int x5), some (.int s0), d7]) (st1 := [.int s0]) (M1 := mjTo Z) rfl ?_
  by_cases hc119 : mjCmp .eq s0 0 = true
  · rw [if_pos hc119] at h
    refine pG_ift (t := 177) rfl rfl hc119 ?_
    exact f136_decide_j177_ok R hR x0 x1 x5 s0 d2 d3 d4 d7 Z v9 Z9 h
  · rw [if_neg hc119] at h
    refine pG_iff (t := 177) rfl rfl hc119 ?_
    refine pG_many 1 (pc1 := 162) (L1 := [some (.ref x0), some (.ref x1), d2, d3, d4, some (.int x5), some (.int s0), d7]) (st1 := [.ref x0]) (M1 := mjTo Z) rfl ?_
    have hk147 : mjIs x0 251 10 = true := by
      by_cases q9 : mjIs x0 251 10 = true
      · exact q9
      · rw [if_neg q9] at h; cases h
    rw [if_pos hk147] at h
    refine pG_getI (ci := 10) (f := 4) rfl rfl (Or.inl rfl) hk147 ?_
    refine pG_many 4 (pc1 := 170) (L1 := [some (.ref x0), some (.ref x1), d2, d3, d4, some (.int x5), some (.int s0), d7]) (st1 := [.int ((((Z.1 x0 4) : Int32) >>> ((x5 : Int32) &&& 31)) &&& 1)]) (M1 := mjTo Z) rfl ?_
    by_cases hc148 : mjCmp .ne ((((Z.1 x0 4) : Int32) >>> ((x5 : Int32) &&& 31)) &&& 1) 0 = true
    · rw [if_pos hc148] at h
      refine pG_ift (t := 177) rfl rfl hc148 ?_
      exact f136_decide_j177_ok R hR x0 x1 x5 s0 d2 d3 d4 d7 Z v9 Z9 h
    · rw [if_neg hc148] at h
      refine pG_iff (t := 177) rfl rfl hc148 ?_
      refine pG_many 2 (pc1 := 178) (L1 := [some (.ref x0), some (.ref x1), d2, d3, d4, some (.int x5), some (.int s0), d7]) (st1 := [.int 1]) (M1 := mjTo Z) rfl ?_
      exact f136_decide_j178_ok R hR x0 x1 x5 s0 1 d2 d3 d4 d7 Z v9 Z9 h
def f136_decide_j153 (R : Nat → Nat → Int32 → mjZt → Option (Unit × mjZt)) (x0 : Nat) (x1 : Nat) (x5 : Int32) (Z : mjZt) : Option (Unit × mjZt) :=
  f136_decide_j154 R x0 x1 x5 0 Z
theorem f136_decide_j153_ok (R : Nat → Nat → Int32 → mjZt → Option (Unit × mjZt)) (hR : ∀ (x0 : Nat) (x1 : Nat) (x5 : Int32) (d2 d3 d4 d6 d7 : Option Value) (Z : mjZt) (v9 : Unit) (Z9 : mjZt), R x0 x1 x5 Z = some (v9, Z9) → pG 136 124 [some (.ref x0), some (.ref x1), d2, d3, d4, some (.int x5), d6, d7] [] (mjTo Z) (fun r M1 => r = none ∧ M1 = mjTo Z9)) (x0 : Nat) (x1 : Nat) (x5 : Int32) (d2 d3 d4 d6 d7 : Option Value) (Z : mjZt) (v9 : Unit) (Z9 : mjZt) (h : f136_decide_j153 R x0 x1 x5 Z = some (v9, Z9)) : pG 136 153 [some (.ref x0), some (.ref x1), d2, d3, d4, some (.int x5), d6, d7] [] (mjTo Z) (fun r M1 => r = none ∧ M1 = mjTo Z9) := by
  unfold f136_decide_j153 at h
  refine pG_many 1 (pc1 := 154) (L1 := [some (.ref x0), some (.ref x1), d2, d3, d4, some (.int x5), d6, d7]) (st1 := [.int 0]) (M1 := mjTo Z) rfl ?_
  exact f136_decide_j154_ok R hR x0 x1 x5 0 d2 d3 d4 d6 d7 Z v9 Z9 h
def f136_decide_h124 : Nat → Nat → Nat → Int32 → mjZt → Option (Unit × mjZt)
  | 0, _, _, _, _ => none
  | n + 1, x0, x1, x5, Z =>
    if mjCmp .ge x5 6 = true then
      if mjIs x0 251 10 = true then
      mjBd (f135_decideThrough x0 x1 Z) fun _ Z113 =>
      some ((), Z113)
      else none
    else
      if mjIs x1 251 2 = true then
      mjBp (f7_hasTeam x1 x5 Z) fun v116 =>
      if mjCmp .eq v116 0 = true then
        f136_decide_j153 (f136_decide_h124 n) x0 x1 x5 Z
      else
        mjBp (f23_isWhole x1 x5 Z) fun v150 =>
        if mjCmp .eq v150 0 = true then
          f136_decide_j153 (f136_decide_h124 n) x0 x1 x5 Z
        else
          f136_decide_j154 (f136_decide_h124 n) x0 x1 x5 1 Z
      else none
theorem f136_decide_h124_ok : ∀ (n : Nat) (x0 : Nat) (x1 : Nat) (x5 : Int32) (d2 d3 d4 d6 d7 : Option Value) (Z : mjZt) (v9 : Unit) (Z9 : mjZt), f136_decide_h124 n x0 x1 x5 Z = some (v9, Z9) → pG 136 124 [some (.ref x0), some (.ref x1), d2, d3, d4, some (.int x5), d6, d7] [] (mjTo Z) (fun r M1 => r = none ∧ M1 = mjTo Z9)
  | 0, x0, x1, x5, d2, d3, d4, d6, d7, Z, v9, Z9, h => by rw [f136_decide_h124] at h; cases h
  | n + 1, x0, x1, x5, d2, d3, d4, d6, d7, Z, v9, Z9, h => by
      rw [f136_decide_h124] at h
      refine pG_many 2 (pc1 := 128) (L1 := [some (.ref x0), some (.ref x1), d2, d3, d4, some (.int x5), d6, d7]) (st1 := [.int 6, .int x5]) (M1 := mjTo Z) rfl ?_
      by_cases hc109 : mjCmp .ge x5 6 = true
      · rw [if_pos hc109] at h
        refine pG_cmt (t := 258) rfl rfl hc109 ?_
        refine pG_many 2 (pc1 := 260) (L1 := [some (.ref x0), some (.ref x1), d2, d3, d4, some (.int x5), d6, d7]) (st1 := [.ref x1, .ref x0]) (M1 := mjTo Z) rfl ?_
        have hk110 : mjIs x0 251 10 = true := by
          by_cases q9 : mjIs x0 251 10 = true
          · exact q9
          · rw [if_neg q9] at h; cases h
        rw [if_pos hk110] at h
        cases hq111 : f135_decideThrough x0 x1 Z with
        | none => rw [hq111] at h; cases h
        | some w =>
          obtain ⟨v112, Z113⟩ := w
          rw [hq111, mjBd_some] at h
          refine pG_callV (k2 := 135) (As := [.ref x0, .ref x1]) (rest := []) rfl rfl rfl rfl rfl (mjRcv_is hk110 (by decide)) (by decide) (f135_decideThrough_ok hq111) ?_
          rintro r9 M9 ⟨rfl, rfl⟩
          show pG 136 263 [some (.ref x0), some (.ref x1), d2, d3, d4, some (.int x5), d6, d7] [] (mjTo Z113) _
          simp only [Option.some.injEq, Prod.mk.injEq] at h
          obtain ⟨-, rfl⟩ := h
          exact pG_ret (r := none) rfl ⟨rfl, rfl⟩
      · rw [if_neg hc109] at h
        refine pG_cmf (t := 258) rfl rfl hc109 ?_
        refine pG_many 2 (pc1 := 134) (L1 := [some (.ref x0), some (.ref x1), d2, d3, d4, some (.int x5), d6, d7]) (st1 := [.int x5, .ref x1]) (M1 := mjTo Z) rfl ?_
        have hk114 : mjIs x1 251 2 = true := by
          by_cases q9 : mjIs x1 251 2 = true
          · exact q9
          · rw [if_neg q9] at h; cases h
        rw [if_pos hk114] at h
        cases hq115 : f7_hasTeam x1 x5 Z with
        | none => rw [hq115] at h; cases h
        | some v116 =>
          rw [hq115, mjBp_some] at h
          refine pG_callV (k2 := 7) (As := [.ref x1, .int x5]) (rest := []) rfl rfl rfl rfl rfl (mjRcv_is hk114 (by decide)) (by decide) (f7_hasTeam_ok hq115) ?_
          rintro r9 M9 ⟨rfl, rfl⟩
          show pG 136 137 [some (.ref x0), some (.ref x1), d2, d3, d4, some (.int x5), d6, d7] [.int v116] (mjTo Z) _
          by_cases hc118 : mjCmp .eq v116 0 = true
          · rw [if_pos hc118] at h
            refine pG_ift (t := 153) rfl rfl hc118 ?_
            exact f136_decide_j153_ok (f136_decide_h124 n) (fun x0 x1 x5 d2 d3 d4 d6 d7 Z v9 Z9 h => f136_decide_h124_ok n x0 x1 x5 d2 d3 d4 d6 d7 Z v9 Z9 h) x0 x1 x5 d2 d3 d4 d6 d7 Z v9 Z9 h
          · rw [if_neg hc118] at h
            refine pG_iff (t := 153) rfl rfl hc118 ?_
            refine pG_many 2 (pc1 := 143) (L1 := [some (.ref x0), some (.ref x1), d2, d3, d4, some (.int x5), d6, d7]) (st1 := [.int x5, .ref x1]) (M1 := mjTo Z) rfl ?_
            cases hq149 : f23_isWhole x1 x5 Z with
            | none => rw [hq149] at h; cases h
            | some v150 =>
              rw [hq149, mjBp_some] at h
              refine pG_callV (k2 := 23) (As := [.ref x1, .int x5]) (rest := []) rfl rfl rfl rfl rfl (mjRcv_is hk114 (by decide)) (by decide) (f23_isWhole_ok hq149) ?_
              rintro r9 M9 ⟨rfl, rfl⟩
              show pG 136 146 [some (.ref x0), some (.ref x1), d2, d3, d4, some (.int x5), d6, d7] [.int v150] (mjTo Z) _
              by_cases hc152 : mjCmp .eq v150 0 = true
              · rw [if_pos hc152] at h
                refine pG_ift (t := 153) rfl rfl hc152 ?_
                exact f136_decide_j153_ok (f136_decide_h124 n) (fun x0 x1 x5 d2 d3 d4 d6 d7 Z v9 Z9 h => f136_decide_h124_ok n x0 x1 x5 d2 d3 d4 d6 d7 Z v9 Z9 h) x0 x1 x5 d2 d3 d4 d6 d7 Z v9 Z9 h
              · rw [if_neg hc152] at h
                refine pG_iff (t := 153) rfl rfl hc152 ?_
                refine pG_many 2 (pc1 := 154) (L1 := [some (.ref x0), some (.ref x1), d2, d3, d4, some (.int x5), d6, d7]) (st1 := [.int 1]) (M1 := mjTo Z) rfl ?_
                exact f136_decide_j154_ok (f136_decide_h124 n) (fun x0 x1 x5 d2 d3 d4 d6 d7 Z v9 Z9 h => f136_decide_h124_ok n x0 x1 x5 d2 d3 d4 d6 d7 Z v9 Z9 h) x0 x1 x5 1 d2 d3 d4 d6 d7 Z v9 Z9 h
def f136_decide_j116 (x0 : Nat) (x1 : Nat) (Z : mjZt) : Option (Unit × mjZt) :=
  if mjIs x0 251 10 = true then
  mjLet (zSi Z x0 8 0) fun Z108 =>
  f136_decide_h124 mjF x0 x1 0 Z108
  else none
theorem f136_decide_j116_ok (x0 : Nat) (x1 : Nat) (d2 d3 d4 d5 d6 d7 : Option Value) (Z : mjZt) (v9 : Unit) (Z9 : mjZt) (h : f136_decide_j116 x0 x1 Z = some (v9, Z9)) : pG 136 116 [some (.ref x0), some (.ref x1), d2, d3, d4, d5, d6, d7] [] (mjTo Z) (fun r M1 => r = none ∧ M1 = mjTo Z9) := by
  unfold f136_decide_j116 at h
  refine pG_many 2 (pc1 := 118) (L1 := [some (.ref x0), some (.ref x1), d2, d3, d4, d5, d6, d7]) (st1 := [.int 0, .ref x0]) (M1 := mjTo Z) rfl ?_
  have hk107 : mjIs x0 251 10 = true := by
    by_cases q9 : mjIs x0 251 10 = true
    · exact q9
    · rw [if_neg q9] at h; cases h
  rw [if_pos hk107] at h
  refine pG_putI (ci := 10) (f := 8) rfl rfl rfl rfl hk107 ?_
  rw [mjLet] at h
  generalize zSi Z x0 8 0 = Z108 at h ⊢
  refine pG_many 2 (pc1 := 124) (L1 := [some (.ref x0), some (.ref x1), d2, d3, (mjK1 d4), some (.int 0), d6, d7]) (st1 := []) (M1 := mjTo Z108) rfl ?_
  exact f136_decide_h124_ok mjF x0 x1 0 d2 d3 ((mjK1 d4)) d6 d7 Z108 v9 Z9 h
def f136_decide_h45 : Nat → Nat → Nat → Int64 → Int32 → mjZt → Option (Unit × mjZt)
  | 0, _, _, _, _, _ => none
  | n + 1, x0, x1, x3, x5, Z =>
    if mjIs x1 251 2 = true then
    if mjCmp .ge x5 (Z.1 x1 7) = true then
      f136_decide_j116 x0 x1 Z
    else
      if mjCmp .ge x5 42 = true then
        f136_decide_j116 x0 x1 Z
      else
        mjBp (f6_deed x1 x5 Z) fun v155 =>
        if mjIs x0 251 10 = true then
        if mjIs v155 251 0 = true then
        mjBd (f93_rulesStriking x1 x5 (Z.1 v155 3) (Z.1 v155 4) x3 Z) fun v160 Z161 =>
        if mjIs (x0 + 1) 251 13 = true then
        if mjIn x5 (mjLay (x0 + 1)).2 = true then
        mjLet (zSi Z161 (x0 + 1) (mjIx x5) v160) fun Z164 =>
        if mjCmp .eq (Z164.1 (x0 + 1) (mjIx x5)) 0 = true then
          f136_decide_h45 n x0 x1 x3 (x5 + 1) Z164
        else
          mjBd (f132_strike x0 v155 Z164) fun _ Z168 =>
          f136_decide_h45 n x0 x1 x3 (x5 + 1) Z168
        else none
        else none
        else none
        else none
    else none
theorem f136_decide_h45_ok : ∀ (n : Nat) (x0 : Nat) (x1 : Nat) (x3 : Int64) (x5 : Int32) (d4 d6 d7 : Option Value) (Z : mjZt) (v9 : Unit) (Z9 : mjZt), f136_decide_h45 n x0 x1 x3 x5 Z = some (v9, Z9) → pG 136 45 [some (.ref x0), some (.ref x1), some (.ref 190), some (.long x3), d4, some (.int x5), d6, d7] [] (mjTo Z) (fun r M1 => r = none ∧ M1 = mjTo Z9)
  | 0, x0, x1, x3, x5, d4, d6, d7, Z, v9, Z9, h => by rw [f136_decide_h45] at h; cases h
  | n + 1, x0, x1, x3, x5, d4, d6, d7, Z, v9, Z9, h => by
      rw [f136_decide_h45] at h
      refine pG_many 2 (pc1 := 48) (L1 := [some (.ref x0), some (.ref x1), some (.ref 190), some (.long x3), d4, some (.int x5), d6, d7]) (st1 := [.ref x1, .int x5]) (M1 := mjTo Z) rfl ?_
      have hk105 : mjIs x1 251 2 = true := by
        by_cases q9 : mjIs x1 251 2 = true
        · exact q9
        · rw [if_neg q9] at h; cases h
      rw [if_pos hk105] at h
      refine pG_getI (ci := 2) (f := 7) rfl rfl (Or.inl rfl) hk105 ?_
      by_cases hc106 : mjCmp .ge x5 (Z.1 x1 7) = true
      · rw [if_pos hc106] at h
        refine pG_cmt (t := 116) rfl rfl hc106 ?_
        exact f136_decide_j116_ok x0 x1 (some (.ref 190)) (some (.long x3)) d4 (some (.int x5)) d6 d7 Z v9 Z9 h
      · rw [if_neg hc106] at h
        refine pG_cmf (t := 116) rfl rfl hc106 ?_
        refine pG_many 2 (pc1 := 58) (L1 := [some (.ref x0), some (.ref x1), some (.ref 190), some (.long x3), d4, some (.int x5), d6, d7]) (st1 := [.int 42, .int x5]) (M1 := mjTo Z) rfl ?_
        by_cases hc153 : mjCmp .ge x5 42 = true
        · rw [if_pos hc153] at h
          refine pG_cmt (t := 116) rfl rfl hc153 ?_
          exact f136_decide_j116_ok x0 x1 (some (.ref 190)) (some (.long x3)) d4 (some (.int x5)) d6 d7 Z v9 Z9 h
        · rw [if_neg hc153] at h
          refine pG_cmf (t := 116) rfl rfl hc153 ?_
          refine pG_many 2 (pc1 := 64) (L1 := [some (.ref x0), some (.ref x1), some (.ref 190), some (.long x3), d4, some (.int x5), d6, d7]) (st1 := [.int x5, .ref x1]) (M1 := mjTo Z) rfl ?_
          cases hq154 : f6_deed x1 x5 Z with
          | none => rw [hq154] at h; cases h
          | some v155 =>
            rw [hq154, mjBp_some] at h
            refine pG_callV (k2 := 6) (As := [.ref x1, .int x5]) (rest := []) rfl rfl rfl rfl rfl (mjRcv_is hk105 (by decide)) (by decide) (f6_deed_ok hq154) ?_
            rintro r9 M9 ⟨rfl, rfl⟩
            show pG 136 67 [some (.ref x0), some (.ref x1), some (.ref 190), some (.long x3), d4, some (.int x5), d6, d7] [.ref v155] (mjTo Z) _
            refine pG_many 2 (pc1 := 70) (L1 := [some (.ref x0), some (.ref x1), some (.ref 190), some (.long x3), d4, some (.int x5), some (.ref v155), d7]) (st1 := [.ref x0]) (M1 := mjTo Z) rfl ?_
            have hk157 : mjIs x0 251 10 = true := by
              by_cases q9 : mjIs x0 251 10 = true
              · exact q9
              · rw [if_neg q9] at h; cases h
            rw [if_pos hk157] at h
            refine pG_getR (ci := 10) (f := 0) (b := x0 + 1) rfl rfl rfl hk157 (mjRc10_0 hk157) ?_
            refine pG_many 5 (pc1 := 81) (L1 := [some (.ref x0), some (.ref x1), some (.ref 190), some (.long x3), d4, some (.int x5), some (.ref v155), d7]) (st1 := [.ref v155, .int x5, .ref x1, .ref 190, .int x5, .ref (x0 + 1)]) (M1 := mjTo Z) rfl ?_
            have hk158 : mjIs v155 251 0 = true := by
              by_cases q9 : mjIs v155 251 0 = true
              · exact q9
              · rw [if_neg q9] at h; cases h
            rw [if_pos hk158] at h
            refine pG_getI (ci := 0) (f := 3) rfl rfl (Or.inl rfl) hk158 ?_
            refine pG_many 1 (pc1 := 86) (L1 := [some (.ref x0), some (.ref x1), some (.ref 190), some (.long x3), d4, some (.int x5), some (.ref v155), d7]) (st1 := [.ref v155, .int (Z.1 v155 3), .int x5, .ref x1, .ref 190, .int x5, .ref (x0 + 1)]) (M1 := mjTo Z) rfl ?_
            refine pG_getI (ci := 0) (f := 4) rfl rfl (Or.inl rfl) hk158 ?_
            refine pG_many 1 (pc1 := 90) (L1 := [some (.ref x0), some (.ref x1), some (.ref 190), some (.long x3), d4, some (.int x5), some (.ref v155), d7]) (st1 := [.long x3, .int (Z.1 v155 4), .int (Z.1 v155 3), .int x5, .ref x1, .ref 190, .int x5, .ref (x0 + 1)]) (M1 := mjTo Z) rfl ?_
            cases hq159 : f93_rulesStriking x1 x5 (Z.1 v155 3) (Z.1 v155 4) x3 Z with
            | none => rw [hq159] at h; cases h
            | some w =>
              obtain ⟨v160, Z161⟩ := w
              rw [hq159, mjBd_some] at h
              refine pG_callV (k2 := 93) (As := [.ref 190, .ref x1, .int x5, .int (Z.1 v155 3), .int (Z.1 v155 4), .long x3]) (rest := [.int x5, .ref (x0 + 1)]) rfl rfl rfl rfl rfl (by rfl) (by decide) (f93_rulesStriking_ok hq159) ?_
              rintro r9 M9 ⟨rfl, rfl⟩
              show pG 136 93 [some (.ref x0), some (.ref x1), some (.ref 190), some (.long x3), d4, some (.int x5), some (.ref v155), d7] [.int v160, .int x5, .ref (x0 + 1)] (mjTo Z161) _
              have hk162 : mjIs (x0 + 1) 251 13 = true := by
                by_cases q9 : mjIs (x0 + 1) 251 13 = true
                · exact q9
                · rw [if_neg q9] at h; cases h
              rw [if_pos hk162] at h
              have hk163 : mjIn x5 (mjLay (x0 + 1)).2 = true := by
                by_cases q9 : mjIn x5 (mjLay (x0 + 1)).2 = true
                · exact q9
                · rw [if_neg q9] at h; cases h
              rw [if_pos hk163] at h
              refine pG_ias rfl hk162 hk163 (?_ : pG 136 94 [some (.ref x0), some (.ref x1), some (.ref 190), some (.long x3), d4, some (.int x5), some (.ref v155), d7] [] (mjTo (zSi Z161 (x0 + 1) (mjIx x5) v160)) _)
              rw [mjLet] at h
              generalize zSi Z161 (x0 + 1) (mjIx x5) v160 = Z164 at h ⊢
              refine pG_many 1 (pc1 := 95) (L1 := [some (.ref x0), some (.ref x1), some (.ref 190), some (.long x3), d4, some (.int x5), some (.ref v155), d7]) (st1 := [.ref x0]) (M1 := mjTo Z164) rfl ?_
              refine pG_getR (ci := 10) (f := 0) (b := x0 + 1) rfl rfl rfl hk157 (mjRc10_0 hk157) ?_
              refine pG_many 1 (pc1 := 100) (L1 := [some (.ref x0), some (.ref x1), some (.ref 190), some (.long x3), d4, some (.int x5), some (.ref v155), d7]) (st1 := [.int x5, .ref (x0 + 1)]) (M1 := mjTo Z164) rfl ?_
              refine pG_ial rfl hk162 hk163 ?_
              by_cases hc165 : mjCmp .eq (Z164.1 (x0 + 1) (mjIx x5)) 0 = true
              · rw [if_pos hc165] at h
                refine pG_ift (t := 110) rfl rfl hc165 ?_
                refine pG_many 2 (pc1 := 45) (L1 := [some (.ref x0), some (.ref x1), some (.ref 190), some (.long x3), (mjK1 d4), some (.int (x5 + 1)), some (.ref v155), d7]) (st1 := []) (M1 := mjTo Z164) rfl ?_
                exact f136_decide_h45_ok n x0 x1 x3 (x5 + 1) ((mjK1 d4)) (some (.ref v155)) d7 Z164 v9 Z9 h
              · rw [if_neg hc165] at h
                refine pG_iff (t := 110) rfl rfl hc165 ?_
                refine pG_many 2 (pc1 := 107) (L1 := [some (.ref x0), some (.ref x1), some (.ref 190), some (.long x3), d4, some (.int x5), some (.ref v155), d7]) (st1 := [.ref v155, .ref x0]) (M1 := mjTo Z164) rfl ?_
                cases hq166 : f132_strike x0 v155 Z164 with
                | none => rw [hq166] at h; cases h
                | some w =>
                  obtain ⟨v167, Z168⟩ := w
                  rw [hq166, mjBd_some] at h
                  refine pG_callV (k2 := 132) (As := [.ref x0, .ref v155]) (rest := []) rfl rfl rfl rfl rfl (mjRcv_is hk157 (by decide)) (by decide) (f132_strike_ok hq166) ?_
                  rintro r9 M9 ⟨rfl, rfl⟩
                  show pG 136 110 [some (.ref x0), some (.ref x1), some (.ref 190), some (.long x3), d4, some (.int x5), some (.ref v155), d7] [] (mjTo Z168) _
                  refine pG_many 2 (pc1 := 45) (L1 := [some (.ref x0), some (.ref x1), some (.ref 190), some (.long x3), (mjK1 d4), some (.int (x5 + 1)), some (.ref v155), d7]) (st1 := []) (M1 := mjTo Z168) rfl ?_
                  exact f136_decide_h45_ok n x0 x1 x3 (x5 + 1) ((mjK1 d4)) (some (.ref v155)) d7 Z168 v9 Z9 h
def f136_decide_h13 : Nat → Nat → Nat → Int64 → Int32 → mjZt → Option (Unit × mjZt)
  | 0, _, _, _, _, _ => none
  | n + 1, x0, x1, x3, x5, Z =>
    if mjCmp .ge x5 6 = true then
      f136_decide_h45 mjF x0 x1 x3 0 Z
    else
      if mjIs x0 251 10 = true then
      if mjIs x1 251 2 = true then
      mjBp (f8_runner x1 x5 Z) fun v172 =>
      if mjIs v172 251 7 = true then
      mjBp (f99_time v172 Z) fun v176 =>
      if mjIs (x0 + 2) 251 13 = true then
      if mjIn x5 (mjLay (x0 + 2)).2 = true then
      mjLet (zSi Z (x0 + 2) (mjIx x5) v176) fun Z180 =>
      f136_decide_h13 n x0 x1 x3 (x5 + 1) Z180
      else none
      else none
      else none
      else none
      else none
theorem f136_decide_h13_ok : ∀ (n : Nat) (x0 : Nat) (x1 : Nat) (x3 : Int64) (x5 : Int32) (d4 d6 d7 : Option Value) (Z : mjZt) (v9 : Unit) (Z9 : mjZt), f136_decide_h13 n x0 x1 x3 x5 Z = some (v9, Z9) → pG 136 13 [some (.ref x0), some (.ref x1), some (.ref 190), some (.long x3), d4, some (.int x5), d6, d7] [] (mjTo Z) (fun r M1 => r = none ∧ M1 = mjTo Z9)
  | 0, x0, x1, x3, x5, d4, d6, d7, Z, v9, Z9, h => by rw [f136_decide_h13] at h; cases h
  | n + 1, x0, x1, x3, x5, d4, d6, d7, Z, v9, Z9, h => by
      rw [f136_decide_h13] at h
      refine pG_many 2 (pc1 := 17) (L1 := [some (.ref x0), some (.ref x1), some (.ref 190), some (.long x3), d4, some (.int x5), d6, d7]) (st1 := [.int 6, .int x5]) (M1 := mjTo Z) rfl ?_
      by_cases hc104 : mjCmp .ge x5 6 = true
      · rw [if_pos hc104] at h
        refine pG_cmt (t := 42) rfl rfl hc104 ?_
        refine pG_many 2 (pc1 := 45) (L1 := [some (.ref x0), some (.ref x1), some (.ref 190), some (.long x3), (mjK1 d4), some (.int 0), d6, d7]) (st1 := []) (M1 := mjTo Z) rfl ?_
        exact f136_decide_h45_ok mjF x0 x1 x3 0 ((mjK1 d4)) d6 d7 Z v9 Z9 h
      · rw [if_neg hc104] at h
        refine pG_cmf (t := 42) rfl rfl hc104 ?_
        refine pG_many 1 (pc1 := 21) (L1 := [some (.ref x0), some (.ref x1), some (.ref 190), some (.long x3), d4, some (.int x5), d6, d7]) (st1 := [.ref x0]) (M1 := mjTo Z) rfl ?_
        have hk169 : mjIs x0 251 10 = true := by
          by_cases q9 : mjIs x0 251 10 = true
          · exact q9
          · rw [if_neg q9] at h; cases h
        rw [if_pos hk169] at h
        refine pG_getR (ci := 10) (f := 1) (b := x0 + 2) rfl rfl rfl hk169 (mjRc10_1 hk169) ?_
        refine pG_many 3 (pc1 := 29) (L1 := [some (.ref x0), some (.ref x1), some (.ref 190), some (.long x3), d4, some (.int x5), d6, d7]) (st1 := [.int x5, .ref x1, .int x5, .ref (x0 + 2)]) (M1 := mjTo Z) rfl ?_
        have hk170 : mjIs x1 251 2 = true := by
          by_cases q9 : mjIs x1 251 2 = true
          · exact q9
          · rw [if_neg q9] at h; cases h
        rw [if_pos hk170] at h
        cases hq171 : f8_runner x1 x5 Z with
        | none => rw [hq171] at h; cases h
        | some v172 =>
          rw [hq171, mjBp_some] at h
          refine pG_callV (k2 := 8) (As := [.ref x1, .int x5]) (rest := [.int x5, .ref (x0 + 2)]) rfl rfl rfl rfl rfl (mjRcv_is hk170 (by decide)) (by decide) (f8_runner_ok hq171) ?_
          rintro r9 M9 ⟨rfl, rfl⟩
          show pG 136 32 [some (.ref x0), some (.ref x1), some (.ref 190), some (.long x3), d4, some (.int x5), d6, d7] [.ref v172, .int x5, .ref (x0 + 2)] (mjTo Z) _
          have hk174 : mjIs v172 251 7 = true := by
            by_cases q9 : mjIs v172 251 7 = true
            · exact q9
            · rw [if_neg q9] at h; cases h
          rw [if_pos hk174] at h
          cases hq175 : f99_time v172 Z with
          | none => rw [hq175] at h; cases h
          | some v176 =>
            rw [hq175, mjBp_some] at h
            refine pG_callV (k2 := 99) (As := [.ref v172]) (rest := [.int x5, .ref (x0 + 2)]) rfl rfl rfl rfl rfl (mjRcv_is hk174 (by decide)) (by decide) (f99_time_ok hq175) ?_
            rintro r9 M9 ⟨rfl, rfl⟩
            show pG 136 35 [some (.ref x0), some (.ref x1), some (.ref 190), some (.long x3), d4, some (.int x5), d6, d7] [.int v176, .int x5, .ref (x0 + 2)] (mjTo Z) _
            have hk178 : mjIs (x0 + 2) 251 13 = true := by
              by_cases q9 : mjIs (x0 + 2) 251 13 = true
              · exact q9
              · rw [if_neg q9] at h; cases h
            rw [if_pos hk178] at h
            have hk179 : mjIn x5 (mjLay (x0 + 2)).2 = true := by
              by_cases q9 : mjIn x5 (mjLay (x0 + 2)).2 = true
              · exact q9
              · rw [if_neg q9] at h; cases h
            rw [if_pos hk179] at h
            refine pG_ias rfl hk178 hk179 (?_ : pG 136 36 [some (.ref x0), some (.ref x1), some (.ref 190), some (.long x3), d4, some (.int x5), d6, d7] [] (mjTo (zSi Z (x0 + 2) (mjIx x5) v176)) _)
            rw [mjLet] at h
            generalize zSi Z (x0 + 2) (mjIx x5) v176 = Z180 at h ⊢
            refine pG_many 2 (pc1 := 13) (L1 := [some (.ref x0), some (.ref x1), some (.ref 190), some (.long x3), (mjK1 d4), some (.int (x5 + 1)), d6, d7]) (st1 := []) (M1 := mjTo Z180) rfl ?_
            exact f136_decide_h13_ok n x0 x1 x3 (x5 + 1) ((mjK1 d4)) d6 d7 Z180 v9 Z9 h
def f136_decide (a0 : Nat) (p0 : Nat) (p2 : Int64) (Z : mjZt) : Option (Unit × mjZt) :=
  if mjIs a0 251 10 = true then
  mjLet (zSi Z a0 4 0) fun Z102 =>
  mjLet (zSi Z102 a0 6 0) fun Z103 =>
  f136_decide_h13 mjF a0 p0 p2 0 Z103
  else none
theorem f136_decide_ok {a0 : Nat} {p0 : Nat} {p2 : Int64} {Z : mjZt} {v9 : Unit} {Z9 : mjZt} (h : f136_decide a0 p0 p2 Z = some (v9, Z9)) : pG 136 0 (mjEnt [.ref a0, .ref p0, .ref 190, .long p2] (mjML 136)) [] (mjTo Z) (fun r M1 => r = none ∧ M1 = mjTo Z9) := by
  unfold f136_decide at h
  show pG 136 0 [some (.ref a0), some (.ref p0), some (.ref 190), some (.long p2), none, none, none, none] [] (mjTo Z) _
  refine pG_many 2 (pc1 := 2) (L1 := [some (.ref a0), some (.ref p0), some (.ref 190), some (.long p2), none, none, none, none]) (st1 := [.int 0, .ref a0]) (M1 := mjTo Z) rfl ?_
  have hk101 : mjIs a0 251 10 = true := by
    by_cases q9 : mjIs a0 251 10 = true
    · exact q9
    · rw [if_neg q9] at h; cases h
  rw [if_pos hk101] at h
  refine pG_putI (ci := 10) (f := 4) rfl rfl rfl rfl hk101 ?_
  rw [mjLet] at h
  generalize zSi Z a0 4 0 = Z102 at h ⊢
  refine pG_many 2 (pc1 := 7) (L1 := [some (.ref a0), some (.ref p0), some (.ref 190), some (.long p2), none, none, none, none]) (st1 := [.int 0, .ref a0]) (M1 := mjTo Z102) rfl ?_
  refine pG_putI (ci := 10) (f := 6) rfl rfl rfl rfl hk101 ?_
  rw [mjLet] at h
  generalize zSi Z102 a0 6 0 = Z103 at h ⊢
  refine pG_many 2 (pc1 := 13) (L1 := [some (.ref a0), some (.ref p0), some (.ref 190), some (.long p2), none, some (.int 0), none, none]) (st1 := []) (M1 := mjTo Z103) rfl ?_
  exact f136_decide_h13_ok mjF a0 p0 p2 0 none none none Z103 v9 Z9 h
def f137_rankByTime (a0 : Nat) (p0 : Int32) (Z : mjZt) : Option Int32 :=
  if mjIs a0 251 10 = true then
  mjBp (f133_isIn a0 p0 Z) fun v103 =>
  if mjCmp .eq v103 0 = true then
    some ((-2))
  else
    mjBp (f134_rankOf (a0 + 3) p0 Z) fun v107 =>
    some v107
  else none
theorem f137_rankByTime_ok {a0 : Nat} {p0 : Int32} {Z : mjZt} {v9 : Int32} (h : f137_rankByTime a0 p0 Z = some v9) : pG 137 0 (mjEnt [.ref a0, .int p0] (mjML 137)) [] (mjTo Z) (fun r M1 => r = some (.int v9) ∧ M1 = mjTo Z) := by
  unfold f137_rankByTime at h
  show pG 137 0 [some (.ref a0), some (.int p0)] [] (mjTo Z) _
  refine pG_many 2 (pc1 := 2) (L1 := [some (.ref a0), some (.int p0)]) (st1 := [.int p0, .ref a0]) (M1 := mjTo Z) rfl ?_
  have hk101 : mjIs a0 251 10 = true := by
    by_cases q9 : mjIs a0 251 10 = true
    · exact q9
    · rw [if_neg q9] at h; cases h
  rw [if_pos hk101] at h
  cases hq102 : f133_isIn a0 p0 Z with
  | none => rw [hq102] at h; cases h
  | some v103 =>
    rw [hq102, mjBp_some] at h
    refine pG_callV (k2 := 133) (As := [.ref a0, .int p0]) (rest := []) rfl rfl rfl rfl rfl (mjRcv_is hk101 (by decide)) (by decide) (f133_isIn_ok hq102) ?_
    rintro r9 M9 ⟨rfl, rfl⟩
    show pG 137 5 [some (.ref a0), some (.int p0)] [.int v103] (mjTo Z) _
    by_cases hc105 : mjCmp .eq v103 0 = true
    · rw [if_pos hc105] at h
      refine pG_ift (t := 19) rfl rfl hc105 ?_
      refine pG_many 1 (pc1 := 21) (L1 := [some (.ref a0), some (.int p0)]) (st1 := [.int ((-2))]) (M1 := mjTo Z) rfl ?_
      simp only [Option.some.injEq] at h
      subst h
      exact pG_ret (r := some (.int ((-2)))) rfl ⟨rfl, rfl⟩
    · rw [if_neg hc105] at h
      refine pG_iff (t := 19) rfl rfl hc105 ?_
      refine pG_many 1 (pc1 := 9) (L1 := [some (.ref a0), some (.int p0)]) (st1 := [.ref a0]) (M1 := mjTo Z) rfl ?_
      refine pG_getR (ci := 10) (f := 2) (b := a0 + 3) rfl rfl rfl hk101 (mjRc10_2 hk101) ?_
      refine pG_many 1 (pc1 := 13) (L1 := [some (.ref a0), some (.int p0)]) (st1 := [.int p0, .ref (a0 + 3)]) (M1 := mjTo Z) rfl ?_
      cases hq106 : f134_rankOf (a0 + 3) p0 Z with
      | none => rw [hq106] at h; cases h
      | some v107 =>
        rw [hq106, mjBp_some] at h
        refine pG_call (k2 := 134) (As := [.ref (a0 + 3), .int p0]) (rest := []) rfl (by decide) (f134_rankOf_ok hq106) ?_
        rintro r9 M9 ⟨rfl, rfl⟩
        show pG 137 16 [some (.ref a0), some (.int p0)] [.int v107] (mjTo Z) _
        refine pG_many 1 (pc1 := 21) (L1 := [some (.ref a0), some (.int p0)]) (st1 := [.int v107]) (M1 := mjTo Z) rfl ?_
        simp only [Option.some.injEq] at h
        subst h
        exact pG_ret (r := some (.int v107)) rfl ⟨rfl, rfl⟩
def f138_rankByWould (a0 : Nat) (p0 : Int32) (Z : mjZt) : Option Int32 :=
  if mjIs a0 251 10 = true then
  mjBp (f133_isIn a0 p0 Z) fun v103 =>
  if mjCmp .eq v103 0 = true then
    some ((-2))
  else
    mjBp (f134_rankOf (a0 + 4) p0 Z) fun v107 =>
    some v107
  else none
theorem f138_rankByWould_ok {a0 : Nat} {p0 : Int32} {Z : mjZt} {v9 : Int32} (h : f138_rankByWould a0 p0 Z = some v9) : pG 138 0 (mjEnt [.ref a0, .int p0] (mjML 138)) [] (mjTo Z) (fun r M1 => r = some (.int v9) ∧ M1 = mjTo Z) := by
  unfold f138_rankByWould at h
  show pG 138 0 [some (.ref a0), some (.int p0)] [] (mjTo Z) _
  refine pG_many 2 (pc1 := 2) (L1 := [some (.ref a0), some (.int p0)]) (st1 := [.int p0, .ref a0]) (M1 := mjTo Z) rfl ?_
  have hk101 : mjIs a0 251 10 = true := by
    by_cases q9 : mjIs a0 251 10 = true
    · exact q9
    · rw [if_neg q9] at h; cases h
  rw [if_pos hk101] at h
  cases hq102 : f133_isIn a0 p0 Z with
  | none => rw [hq102] at h; cases h
  | some v103 =>
    rw [hq102, mjBp_some] at h
    refine pG_callV (k2 := 133) (As := [.ref a0, .int p0]) (rest := []) rfl rfl rfl rfl rfl (mjRcv_is hk101 (by decide)) (by decide) (f133_isIn_ok hq102) ?_
    rintro r9 M9 ⟨rfl, rfl⟩
    show pG 138 5 [some (.ref a0), some (.int p0)] [.int v103] (mjTo Z) _
    by_cases hc105 : mjCmp .eq v103 0 = true
    · rw [if_pos hc105] at h
      refine pG_ift (t := 19) rfl rfl hc105 ?_
      refine pG_many 1 (pc1 := 21) (L1 := [some (.ref a0), some (.int p0)]) (st1 := [.int ((-2))]) (M1 := mjTo Z) rfl ?_
      simp only [Option.some.injEq] at h
      subst h
      exact pG_ret (r := some (.int ((-2)))) rfl ⟨rfl, rfl⟩
    · rw [if_neg hc105] at h
      refine pG_iff (t := 19) rfl rfl hc105 ?_
      refine pG_many 1 (pc1 := 9) (L1 := [some (.ref a0), some (.int p0)]) (st1 := [.ref a0]) (M1 := mjTo Z) rfl ?_
      refine pG_getR (ci := 10) (f := 3) (b := a0 + 4) rfl rfl rfl hk101 (mjRc10_3 hk101) ?_
      refine pG_many 1 (pc1 := 13) (L1 := [some (.ref a0), some (.int p0)]) (st1 := [.int p0, .ref (a0 + 4)]) (M1 := mjTo Z) rfl ?_
      cases hq106 : f134_rankOf (a0 + 4) p0 Z with
      | none => rw [hq106] at h; cases h
      | some v107 =>
        rw [hq106, mjBp_some] at h
        refine pG_call (k2 := 134) (As := [.ref (a0 + 4), .int p0]) (rest := []) rfl (by decide) (f134_rankOf_ok hq106) ?_
        rintro r9 M9 ⟨rfl, rfl⟩
        show pG 138 16 [some (.ref a0), some (.int p0)] [.int v107] (mjTo Z) _
        refine pG_many 1 (pc1 := 21) (L1 := [some (.ref a0), some (.int p0)]) (st1 := [.int v107]) (M1 := mjTo Z) rfl ?_
        simp only [Option.some.injEq] at h
        subst h
        exact pG_ret (r := some (.int v107)) rfl ⟨rfl, rfl⟩
def f139_wouldOf (a0 : Nat) (p0 : Int32) (Z : mjZt) : Option Int32 :=
  if mjIs a0 251 10 = true then
  mjBp (f5_at (a0 + 2) p0 Z) fun v103 =>
  some v103
  else none
theorem f139_wouldOf_ok {a0 : Nat} {p0 : Int32} {Z : mjZt} {v9 : Int32} (h : f139_wouldOf a0 p0 Z = some v9) : pG 139 0 (mjEnt [.ref a0, .int p0] (mjML 139)) [] (mjTo Z) (fun r M1 => r = some (.int v9) ∧ M1 = mjTo Z) := by
  unfold f139_wouldOf at h
  show pG 139 0 [some (.ref a0), some (.int p0)] [] (mjTo Z) _
  refine pG_many 1 (pc1 := 1) (L1 := [some (.ref a0), some (.int p0)]) (st1 := [.ref a0]) (M1 := mjTo Z) rfl ?_
  have hk101 : mjIs a0 251 10 = true := by
    by_cases q9 : mjIs a0 251 10 = true
    · exact q9
    · rw [if_neg q9] at h; cases h
  rw [if_pos hk101] at h
  refine pG_getR (ci := 10) (f := 1) (b := a0 + 2) rfl rfl rfl hk101 (mjRc10_1 hk101) ?_
  refine pG_many 1 (pc1 := 5) (L1 := [some (.ref a0), some (.int p0)]) (st1 := [.int p0, .ref (a0 + 2)]) (M1 := mjTo Z) rfl ?_
  cases hq102 : f5_at (a0 + 2) p0 Z with
  | none => rw [hq102] at h; cases h
  | some v103 =>
    rw [hq102, mjBp_some] at h
    refine pG_call (k2 := 5) (As := [.ref (a0 + 2), .int p0]) (rest := []) rfl (by decide) (f5_at_ok hq102) ?_
    rintro r9 M9 ⟨rfl, rfl⟩
    show pG 139 8 [some (.ref a0), some (.int p0)] [.int v103] (mjTo Z) _
    simp only [Option.some.injEq] at h
    subst h
    exact pG_ret (r := some (.int v103)) rfl ⟨rfl, rfl⟩
def f140_kthOfResult (a0 : Nat) (p0 : Nat) (p1 : Int32) (Z : mjZt) : Option Int32 :=
  if mjIs a0 251 10 = true then
  if mjIs p0 251 2 = true then
  mjBp (f44_kth p0 (a0 + 3) p1 Z) fun v104 =>
  some v104
  else none
  else none
theorem f140_kthOfResult_ok {a0 : Nat} {p0 : Nat} {p1 : Int32} {Z : mjZt} {v9 : Int32} (h : f140_kthOfResult a0 p0 p1 Z = some v9) : pG 140 0 (mjEnt [.ref a0, .ref p0, .int p1] (mjML 140)) [] (mjTo Z) (fun r M1 => r = some (.int v9) ∧ M1 = mjTo Z) := by
  unfold f140_kthOfResult at h
  show pG 140 0 [some (.ref a0), some (.ref p0), some (.int p1)] [] (mjTo Z) _
  refine pG_many 2 (pc1 := 2) (L1 := [some (.ref a0), some (.ref p0), some (.int p1)]) (st1 := [.ref a0, .ref p0]) (M1 := mjTo Z) rfl ?_
  have hk101 : mjIs a0 251 10 = true := by
    by_cases q9 : mjIs a0 251 10 = true
    · exact q9
    · rw [if_neg q9] at h; cases h
  rw [if_pos hk101] at h
  refine pG_getR (ci := 10) (f := 2) (b := a0 + 3) rfl rfl rfl hk101 (mjRc10_2 hk101) ?_
  refine pG_many 1 (pc1 := 6) (L1 := [some (.ref a0), some (.ref p0), some (.int p1)]) (st1 := [.int p1, .ref (a0 + 3), .ref p0]) (M1 := mjTo Z) rfl ?_
  have hk102 : mjIs p0 251 2 = true := by
    by_cases q9 : mjIs p0 251 2 = true
    · exact q9
    · rw [if_neg q9] at h; cases h
  rw [if_pos hk102] at h
  cases hq103 : f44_kth p0 (a0 + 3) p1 Z with
  | none => rw [hq103] at h; cases h
  | some v104 =>
    rw [hq103, mjBp_some] at h
    refine pG_callV (k2 := 44) (As := [.ref p0, .ref (a0 + 3), .int p1]) (rest := []) rfl rfl rfl rfl rfl (mjRcv_is hk102 (by decide)) (by decide) (f44_kth_ok hq103) ?_
    rintro r9 M9 ⟨rfl, rfl⟩
    show pG 140 9 [some (.ref a0), some (.ref p0), some (.int p1)] [.int v104] (mjTo Z) _
    simp only [Option.some.injEq] at h
    subst h
    exact pG_ret (r := some (.int v104)) rfl ⟨rfl, rfl⟩
def f141_isRunAgain_j26 (x0 : Nat) (s0 : Int32) (Z : mjZt) : Option Int32 :=
  if mjIs x0 251 10 = true then
  if mjCmp .eq (Z.1 x0 8) 0 = true then
    some 0
  else
    if mjCmp .ne s0 0 = true then
      some 1
    else
      mjBp (f323_bitCount (Z.1 x0 7) Z) fun v107 =>
      if mjCmp .lt v107 2 = true then
        some 0
      else
        some 1
  else none
theorem f141_isRunAgain_j26_ok (x0 : Nat) (s0 : Int32) (d1 : Option Value) (Z : mjZt) (v9 : Int32) (h : f141_isRunAgain_j26 x0 s0 Z = some v9) : pG 141 26 [some (.ref x0), d1] [.int s0] (mjTo Z) (fun r M1 => r = some (.int v9) ∧ M1 = mjTo Z) := by
  unfold f141_isRunAgain_j26 at h
  refine pG_many 2 (pc1 := 28) (L1 := [some (.ref x0), some (.int s0)]) (st1 := [.ref x0]) (M1 := mjTo Z) rfl ?_
  have hk103 : mjIs x0 251 10 = true := by
    by_cases q9 : mjIs x0 251 10 = true
    · exact q9
    · rw [if_neg q9] at h; cases h
  rw [if_pos hk103] at h
  refine pG_getI (ci := 10) (f := 8) rfl rfl (Or.inl rfl) hk103 ?_
  by_cases hc104 : mjCmp .eq (Z.1 x0 8) 0 = true
  · rw [if_pos hc104] at h
    refine pG_ift (t := 53) rfl rfl hc104 ?_
    refine pG_many 1 (pc1 := 54) (L1 := [some (.ref x0), some (.int s0)]) (st1 := [.int 0]) (M1 := mjTo Z) rfl ?_
    simp only [Option.some.injEq] at h
    subst h
    exact pG_ret (r := some (.int 0)) rfl ⟨rfl, rfl⟩
  · rw [if_neg hc104] at h
    refine pG_iff (t := 53) rfl rfl hc104 ?_
    refine pG_many 1 (pc1 := 35) (L1 := [some (.ref x0), some (.int s0)]) (st1 := [.int s0]) (M1 := mjTo Z) rfl ?_
    by_cases hc105 : mjCmp .ne s0 0 = true
    · rw [if_pos hc105] at h
      refine pG_ift (t := 49) rfl rfl hc105 ?_
      refine pG_many 2 (pc1 := 54) (L1 := [some (.ref x0), some (.int s0)]) (st1 := [.int 1]) (M1 := mjTo Z) rfl ?_
      simp only [Option.some.injEq] at h
      subst h
      exact pG_ret (r := some (.int 1)) rfl ⟨rfl, rfl⟩
    · rw [if_neg hc105] at h
      refine pG_iff (t := 49) rfl rfl hc105 ?_
      refine pG_many 1 (pc1 := 39) (L1 := [some (.ref x0), some (.int s0)]) (st1 := [.ref x0]) (M1 := mjTo Z) rfl ?_
      refine pG_getI (ci := 10) (f := 7) rfl rfl (Or.inl rfl) hk103 ?_
      cases hq106 : f323_bitCount (Z.1 x0 7) Z with
      | none => rw [hq106] at h; cases h
      | some v107 =>
        rw [hq106, mjBp_some] at h
        refine pG_call (k2 := 323) (As := [.int (Z.1 x0 7)]) (rest := []) rfl (by decide) (f323_bitCount_ok hq106) ?_
        rintro r9 M9 ⟨rfl, rfl⟩
        show pG 141 45 [some (.ref x0), some (.int s0)] [.int v107] (mjTo Z) _
        refine pG_many 1 (pc1 := 46) (L1 := [some (.ref x0), some (.int s0)]) (st1 := [.int 2, .int v107]) (M1 := mjTo Z) rfl ?_
        by_cases hc109 : mjCmp .lt v107 2 = true
        · rw [if_pos hc109] at h
          refine pG_cmt (t := 53) rfl rfl hc109 ?_
          refine pG_many 1 (pc1 := 54) (L1 := [some (.ref x0), some (.int s0)]) (st1 := [.int 0]) (M1 := mjTo Z) rfl ?_
          simp only [Option.some.injEq] at h
          subst h
          exact pG_ret (r := some (.int 0)) rfl ⟨rfl, rfl⟩
        · rw [if_neg hc109] at h
          refine pG_cmf (t := 53) rfl rfl hc109 ?_
          refine pG_many 2 (pc1 := 54) (L1 := [some (.ref x0), some (.int s0)]) (st1 := [.int 1]) (M1 := mjTo Z) rfl ?_
          simp only [Option.some.injEq] at h
          subst h
          exact pG_ret (r := some (.int 1)) rfl ⟨rfl, rfl⟩
def f141_isRunAgain (a0 : Nat) (Z : mjZt) : Option Int32 :=
  if mjIs a0 251 10 = true then
  if mjCmp .ne (((Z.1 a0 8) &&& ((Z.1 a0 4) ^^^ ((-1)))) &&& ((Z.1 a0 6) ^^^ ((-1)))) 0 = true then
    f141_isRunAgain_j26 a0 0 Z
  else
    f141_isRunAgain_j26 a0 1 Z
  else none
theorem f141_isRunAgain_ok {a0 : Nat} {Z : mjZt} {v9 : Int32} (h : f141_isRunAgain a0 Z = some v9) : pG 141 0 (mjEnt [.ref a0] (mjML 141)) [] (mjTo Z) (fun r M1 => r = some (.int v9) ∧ M1 = mjTo Z) := by
  unfold f141_isRunAgain at h
  show pG 141 0 [some (.ref a0), none] [] (mjTo Z) _
  refine pG_many 1 (pc1 := 1) (L1 := [some (.ref a0), none]) (st1 := [.ref a0]) (M1 := mjTo Z) rfl ?_
  have hk101 : mjIs a0 251 10 = true := by
    by_cases q9 : mjIs a0 251 10 = true
    · exact q9
    · rw [if_neg q9] at h; cases h
  rw [if_pos hk101] at h
  refine pG_getI (ci := 10) (f := 8) rfl rfl (Or.inl rfl) hk101 ?_
  refine pG_many 1 (pc1 := 5) (L1 := [some (.ref a0), none]) (st1 := [.ref a0, .int (Z.1 a0 8)]) (M1 := mjTo Z) rfl ?_
  refine pG_getI (ci := 10) (f := 4) rfl rfl (Or.inl rfl) hk101 ?_
  refine pG_many 4 (pc1 := 12) (L1 := [some (.ref a0), none]) (st1 := [.ref a0, .int ((Z.1 a0 8) &&& ((Z.1 a0 4) ^^^ ((-1))))]) (M1 := mjTo Z) rfl ?_
  refine pG_getI (ci := 10) (f := 6) rfl rfl (Or.inl rfl) hk101 ?_
  refine pG_many 3 (pc1 := 18) (L1 := [some (.ref a0), none]) (st1 := [.int (((Z.1 a0 8) &&& ((Z.1 a0 4) ^^^ ((-1)))) &&& ((Z.1 a0 6) ^^^ ((-1))))]) (M1 := mjTo Z) rfl ?_
  by_cases hc102 : mjCmp .ne (((Z.1 a0 8) &&& ((Z.1 a0 4) ^^^ ((-1)))) &&& ((Z.1 a0 6) ^^^ ((-1)))) 0 = true
  · rw [if_pos hc102] at h
    refine pG_ift (t := 25) rfl rfl hc102 ?_
    refine pG_many 1 (pc1 := 26) (L1 := [some (.ref a0), none]) (st1 := [.int 0]) (M1 := mjTo Z) rfl ?_
    exact f141_isRunAgain_j26_ok a0 0 none Z v9 h
  · rw [if_neg hc102] at h
    refine pG_iff (t := 25) rfl rfl hc102 ?_
    refine pG_many 2 (pc1 := 26) (L1 := [some (.ref a0), none]) (st1 := [.int 1]) (M1 := mjTo Z) rfl ?_
    exact f141_isRunAgain_j26_ok a0 1 none Z v9 h
def f142_rulesStriking (a0 : Nat) (p0 : Int32) (Z : mjZt) : Option Int32 :=
  if mjIs a0 251 10 = true then
  mjBp (f5_at (a0 + 1) p0 Z) fun v103 =>
  some v103
  else none
theorem f142_rulesStriking_ok {a0 : Nat} {p0 : Int32} {Z : mjZt} {v9 : Int32} (h : f142_rulesStriking a0 p0 Z = some v9) : pG 142 0 (mjEnt [.ref a0, .int p0] (mjML 142)) [] (mjTo Z) (fun r M1 => r = some (.int v9) ∧ M1 = mjTo Z) := by
  unfold f142_rulesStriking at h
  show pG 142 0 [some (.ref a0), some (.int p0)] [] (mjTo Z) _
  refine pG_many 1 (pc1 := 1) (L1 := [some (.ref a0), some (.int p0)]) (st1 := [.ref a0]) (M1 := mjTo Z) rfl ?_
  have hk101 : mjIs a0 251 10 = true := by
    by_cases q9 : mjIs a0 251 10 = true
    · exact q9
    · rw [if_neg q9] at h; cases h
  rw [if_pos hk101] at h
  refine pG_getR (ci := 10) (f := 0) (b := a0 + 1) rfl rfl rfl hk101 (mjRc10_0 hk101) ?_
  refine pG_many 1 (pc1 := 5) (L1 := [some (.ref a0), some (.int p0)]) (st1 := [.int p0, .ref (a0 + 1)]) (M1 := mjTo Z) rfl ?_
  cases hq102 : f5_at (a0 + 1) p0 Z with
  | none => rw [hq102] at h; cases h
  | some v103 =>
    rw [hq102, mjBp_some] at h
    refine pG_call (k2 := 5) (As := [.ref (a0 + 1), .int p0]) (rest := []) rfl (by decide) (f5_at_ok hq102) ?_
    rintro r9 M9 ⟨rfl, rfl⟩
    show pG 142 8 [some (.ref a0), some (.int p0)] [.int v103] (mjTo Z) _
    simp only [Option.some.injEq] at h
    subst h
    exact pG_ret (r := some (.int v103)) rfl ⟨rfl, rfl⟩
def f143_firstRuleStriking_h2 : Nat → Nat → Int32 → Int32 → mjZt → Option Int32
  | 0, _, _, _, _ => none
  | n + 1, x0, x1, x2, Z =>
    if mjCmp .ge x2 8 = true then
      some ((-2))
    else
      if mjIs x0 251 10 = true then
      mjBp (f142_rulesStriking x0 x1 Z) fun v104 =>
      if mjCmp .ne (((v104 : Int32) >>> ((x2 : Int32) &&& 31)) &&& 1) 1 = true then
        f143_firstRuleStriking_h2 n x0 x1 (x2 + 1) Z
      else
        some x2
      else none
theorem f143_firstRuleStriking_h2_ok : ∀ (n : Nat) (x0 : Nat) (x1 : Int32) (x2 : Int32) (Z : mjZt) (v9 : Int32), f143_firstRuleStriking_h2 n x0 x1 x2 Z = some v9 → pG 143 2 [some (.ref x0), some (.int x1), some (.int x2)] [] (mjTo Z) (fun r M1 => r = some (.int v9) ∧ M1 = mjTo Z)
  | 0, x0, x1, x2, Z, v9, h => by rw [f143_firstRuleStriking_h2] at h; cases h
  | n + 1, x0, x1, x2, Z, v9, h => by
      rw [f143_firstRuleStriking_h2] at h
      refine pG_many 2 (pc1 := 5) (L1 := [some (.ref x0), some (.int x1), some (.int x2)]) (st1 := [.int 8, .int x2]) (M1 := mjTo Z) rfl ?_
      by_cases hc101 : mjCmp .ge x2 8 = true
      · rw [if_pos hc101] at h
        refine pG_cmt (t := 29) rfl rfl hc101 ?_
        refine pG_many 1 (pc1 := 31) (L1 := [some (.ref x0), some (.int x1), some (.int x2)]) (st1 := [.int ((-2))]) (M1 := mjTo Z) rfl ?_
        simp only [Option.some.injEq] at h
        subst h
        exact pG_ret (r := some (.int ((-2)))) rfl ⟨rfl, rfl⟩
      · rw [if_neg hc101] at h
        refine pG_cmf (t := 29) rfl rfl hc101 ?_
        refine pG_many 2 (pc1 := 10) (L1 := [some (.ref x0), some (.int x1), some (.int x2)]) (st1 := [.int x1, .ref x0]) (M1 := mjTo Z) rfl ?_
        have hk102 : mjIs x0 251 10 = true := by
          by_cases q9 : mjIs x0 251 10 = true
          · exact q9
          · rw [if_neg q9] at h; cases h
        rw [if_pos hk102] at h
        cases hq103 : f142_rulesStriking x0 x1 Z with
        | none => rw [hq103] at h; cases h
        | some v104 =>
          rw [hq103, mjBp_some] at h
          refine pG_callV (k2 := 142) (As := [.ref x0, .int x1]) (rest := []) rfl rfl rfl rfl rfl (mjRcv_is hk102 (by decide)) (by decide) (f142_rulesStriking_ok hq103) ?_
          rintro r9 M9 ⟨rfl, rfl⟩
          show pG 143 13 [some (.ref x0), some (.int x1), some (.int x2)] [.int v104] (mjTo Z) _
          refine pG_many 5 (pc1 := 18) (L1 := [some (.ref x0), some (.int x1), some (.int x2)]) (st1 := [.int 1, .int (((v104 : Int32) >>> ((x2 : Int32) &&& 31)) &&& 1)]) (M1 := mjTo Z) rfl ?_
          by_cases hc106 : mjCmp .ne (((v104 : Int32) >>> ((x2 : Int32) &&& 31)) &&& 1) 1 = true
          · rw [if_pos hc106] at h
            refine pG_cmt (t := 23) rfl rfl hc106 ?_
            refine pG_many 2 (pc1 := 2) (L1 := [some (.ref x0), some (.int x1), some (.int (x2 + 1))]) (st1 := []) (M1 := mjTo Z) rfl ?_
            exact f143_firstRuleStriking_h2_ok n x0 x1 (x2 + 1) Z v9 h
          · rw [if_neg hc106] at h
            refine pG_cmf (t := 23) rfl rfl hc106 ?_
            refine pG_many 1 (pc1 := 22) (L1 := [some (.ref x0), some (.int x1), some (.int x2)]) (st1 := [.int x2]) (M1 := mjTo Z) rfl ?_
            simp only [Option.some.injEq] at h
            subst h
            exact pG_ret (r := some (.int x2)) rfl ⟨rfl, rfl⟩
def f143_firstRuleStriking (a0 : Nat) (p0 : Int32) (Z : mjZt) : Option Int32 :=
  f143_firstRuleStriking_h2 mjF a0 p0 0 Z
theorem f143_firstRuleStriking_ok {a0 : Nat} {p0 : Int32} {Z : mjZt} {v9 : Int32} (h : f143_firstRuleStriking a0 p0 Z = some v9) : pG 143 0 (mjEnt [.ref a0, .int p0] (mjML 143)) [] (mjTo Z) (fun r M1 => r = some (.int v9) ∧ M1 = mjTo Z) := by
  unfold f143_firstRuleStriking at h
  show pG 143 0 [some (.ref a0), some (.int p0), none] [] (mjTo Z) _
  refine pG_many 2 (pc1 := 2) (L1 := [some (.ref a0), some (.int p0), some (.int 0)]) (st1 := []) (M1 := mjTo Z) rfl ?_
  exact f143_firstRuleStriking_h2_ok mjF a0 p0 0 Z v9 h
def f144_firstStruckAct_j46 (R : Nat → Nat → Int32 → Int32 → Int32 → mjZt → Option Int32) (x0 : Nat) (x1 : Nat) (x2 : Int32) (x3 : Int32) (x4 : Int32) (x5 : Nat) (s0 : Int32) (Z : mjZt) : Option Int32 :=
  if mjCmp .eq s0 0 = true then
    R x0 x1 x2 x3 (x4 + 1) Z
  else
    if mjCmp .eq x3 ((-2)) = true then
      R x0 x1 x2 x4 (x4 + 1) Z
    else
      if mjIs x5 251 0 = true then
      if mjIs x1 251 2 = true then
      mjBp (f6_deed x1 x3 Z) fun v113 =>
      if mjIs v113 251 0 = true then
      if mjCmp .ge (Z.1 x5 3) (Z.1 v113 3) = true then
        R x0 x1 x2 x3 (x4 + 1) Z
      else
        R x0 x1 x2 x4 (x4 + 1) Z
      else none
      else none
      else none
theorem f144_firstStruckAct_j46_ok (R : Nat → Nat → Int32 → Int32 → Int32 → mjZt → Option Int32) (hR : ∀ (x0 : Nat) (x1 : Nat) (x2 : Int32) (x3 : Int32) (x4 : Int32) (d5 d6 : Option Value) (Z : mjZt) (v9 : Int32), R x0 x1 x2 x3 x4 Z = some v9 → pG 144 6 [some (.ref x0), some (.ref x1), some (.int x2), some (.int x3), some (.int x4), d5, d6] [] (mjTo Z) (fun r M1 => r = some (.int v9) ∧ M1 = mjTo Z)) (x0 : Nat) (x1 : Nat) (x2 : Int32) (x3 : Int32) (x4 : Int32) (x5 : Nat) (s0 : Int32) (d6 : Option Value) (Z : mjZt) (v9 : Int32) (h : f144_firstStruckAct_j46 R x0 x1 x2 x3 x4 x5 s0 Z = some v9) : pG 144 46 [some (.ref x0), some (.ref x1), some (.int x2), some (.int x3), some (.int x4), some (.ref x5), d6] [.int s0] (mjTo Z) (fun r M1 => r = some (.int v9) ∧ M1 = mjTo Z) := by
  unfold f144_firstStruckAct_j46 at h
  refine pG_many 2 (pc1 := 50) (L1 := [some (.ref x0), some (.ref x1), some (.int x2), some (.int x3), some (.int x4), some (.ref x5), some (.int s0)]) (st1 := [.int s0]) (M1 := mjTo Z) rfl ?_
  by_cases hc108 : mjCmp .eq s0 0 = true
  · rw [if_pos hc108] at h
    refine pG_ift (t := 78) rfl rfl hc108 ?_
    refine pG_many 2 (pc1 := 6) (L1 := [some (.ref x0), some (.ref x1), some (.int x2), some (.int x3), some (.int (x4 + 1)), some (.ref x5), some (.int s0)]) (st1 := []) (M1 := mjTo Z) rfl ?_
    exact hR x0 x1 x2 x3 (x4 + 1) (some (.ref x5)) (some (.int s0)) Z v9 h
  · rw [if_neg hc108] at h
    refine pG_iff (t := 78) rfl rfl hc108 ?_
    refine pG_many 2 (pc1 := 56) (L1 := [some (.ref x0), some (.ref x1), some (.int x2), some (.int x3), some (.int x4), some (.ref x5), some (.int s0)]) (st1 := [.int ((-2)), .int x3]) (M1 := mjTo Z) rfl ?_
    by_cases hc109 : mjCmp .eq x3 ((-2)) = true
    · rw [if_pos hc109] at h
      refine pG_cmt (t := 75) rfl rfl hc109 ?_
      refine pG_many 4 (pc1 := 6) (L1 := [some (.ref x0), some (.ref x1), some (.int x2), some (.int x4), some (.int (x4 + 1)), some (.ref x5), some (.int s0)]) (st1 := []) (M1 := mjTo Z) rfl ?_
      exact hR x0 x1 x2 x4 (x4 + 1) (some (.ref x5)) (some (.int s0)) Z v9 h
    · rw [if_neg hc109] at h
      refine pG_cmf (t := 75) rfl rfl hc109 ?_
      refine pG_many 1 (pc1 := 61) (L1 := [some (.ref x0), some (.ref x1), some (.int x2), some (.int x3), some (.int x4), some (.ref x5), some (.int s0)]) (st1 := [.ref x5]) (M1 := mjTo Z) rfl ?_
      have hk110 : mjIs x5 251 0 = true := by
        by_cases q9 : mjIs x5 251 0 = true
        · exact q9
        · rw [if_neg q9] at h; cases h
      rw [if_pos hk110] at h
      refine pG_getI (ci := 0) (f := 3) rfl rfl (Or.inl rfl) hk110 ?_
      refine pG_many 2 (pc1 := 66) (L1 := [some (.ref x0), some (.ref x1), some (.int x2), some (.int x3), some (.int x4), some (.ref x5), some (.int s0)]) (st1 := [.int x3, .ref x1, .int (Z.1 x5 3)]) (M1 := mjTo Z) rfl ?_
      have hk111 : mjIs x1 251 2 = true := by
        by_cases q9 : mjIs x1 251 2 = true
        · exact q9
        · rw [if_neg q9] at h; cases h
      rw [if_pos hk111] at h
      cases hq112 : f6_deed x1 x3 Z with
      | none => rw [hq112] at h; cases h
      | some v113 =>
        rw [hq112, mjBp_some] at h
        refine pG_callV (k2 := 6) (As := [.ref x1, .int x3]) (rest := [.int (Z.1 x5 3)]) rfl rfl rfl rfl rfl (mjRcv_is hk111 (by decide)) (by decide) (f6_deed_ok hq112) ?_
        rintro r9 M9 ⟨rfl, rfl⟩
        show pG 144 69 [some (.ref x0), some (.ref x1), some (.int x2), some (.int x3), some (.int x4), some (.ref x5), some (.int s0)] [.ref v113, .int (Z.1 x5 3)] (mjTo Z) _
        have hk115 : mjIs v113 251 0 = true := by
          by_cases q9 : mjIs v113 251 0 = true
          · exact q9
          · rw [if_neg q9] at h; cases h
        rw [if_pos hk115] at h
        refine pG_getI (ci := 0) (f := 3) rfl rfl (Or.inl rfl) hk115 ?_
        by_cases hc116 : mjCmp .ge (Z.1 x5 3) (Z.1 v113 3) = true
        · rw [if_pos hc116] at h
          refine pG_cmt (t := 78) rfl rfl hc116 ?_
          refine pG_many 2 (pc1 := 6) (L1 := [some (.ref x0), some (.ref x1), some (.int x2), some (.int x3), some (.int (x4 + 1)), some (.ref x5), some (.int s0)]) (st1 := []) (M1 := mjTo Z) rfl ?_
          exact hR x0 x1 x2 x3 (x4 + 1) (some (.ref x5)) (some (.int s0)) Z v9 h
        · rw [if_neg hc116] at h
          refine pG_cmf (t := 78) rfl rfl hc116 ?_
          refine pG_many 4 (pc1 := 6) (L1 := [some (.ref x0), some (.ref x1), some (.int x2), some (.int x4), some (.int (x4 + 1)), some (.ref x5), some (.int s0)]) (st1 := []) (M1 := mjTo Z) rfl ?_
          exact hR x0 x1 x2 x4 (x4 + 1) (some (.ref x5)) (some (.int s0)) Z v9 h
def f144_firstStruckAct_j45 (R : Nat → Nat → Int32 → Int32 → Int32 → mjZt → Option Int32) (x0 : Nat) (x1 : Nat) (x2 : Int32) (x3 : Int32) (x4 : Int32) (x5 : Nat) (Z : mjZt) : Option Int32 :=
  f144_firstStruckAct_j46 R x0 x1 x2 x3 x4 x5 0 Z
theorem f144_firstStruckAct_j45_ok (R : Nat → Nat → Int32 → Int32 → Int32 → mjZt → Option Int32) (hR : ∀ (x0 : Nat) (x1 : Nat) (x2 : Int32) (x3 : Int32) (x4 : Int32) (d5 d6 : Option Value) (Z : mjZt) (v9 : Int32), R x0 x1 x2 x3 x4 Z = some v9 → pG 144 6 [some (.ref x0), some (.ref x1), some (.int x2), some (.int x3), some (.int x4), d5, d6] [] (mjTo Z) (fun r M1 => r = some (.int v9) ∧ M1 = mjTo Z)) (x0 : Nat) (x1 : Nat) (x2 : Int32) (x3 : Int32) (x4 : Int32) (x5 : Nat) (d6 : Option Value) (Z : mjZt) (v9 : Int32) (h : f144_firstStruckAct_j45 R x0 x1 x2 x3 x4 x5 Z = some v9) : pG 144 45 [some (.ref x0), some (.ref x1), some (.int x2), some (.int x3), some (.int x4), some (.ref x5), d6] [] (mjTo Z) (fun r M1 => r = some (.int v9) ∧ M1 = mjTo Z) := by
  unfold f144_firstStruckAct_j45 at h
  refine pG_many 1 (pc1 := 46) (L1 := [some (.ref x0), some (.ref x1), some (.int x2), some (.int x3), some (.int x4), some (.ref x5), d6]) (st1 := [.int 0]) (M1 := mjTo Z) rfl ?_
  exact f144_firstStruckAct_j46_ok R hR x0 x1 x2 x3 x4 x5 0 d6 Z v9 h
def f144_firstStruckAct_h6 : Nat → Nat → Nat → Int32 → Int32 → Int32 → mjZt → Option Int32
  | 0, _, _, _, _, _, _ => none
  | n + 1, x0, x1, x2, x3, x4, Z =>
    if mjIs x1 251 2 = true then
    if mjCmp .ge x4 (Z.1 x1 7) = true then
      some x3
    else
      mjBp (f6_deed x1 x4 Z) fun v104 =>
      if mjIs v104 251 0 = true then
      if mjCmp .ne (Z.1 v104 1) x2 = true then
        f144_firstStruckAct_j45 (f144_firstStruckAct_h6 n) x0 x1 x2 x3 x4 v104 Z
      else
        if mjIs x0 251 10 = true then
        mjBp (f142_rulesStriking x0 x4 Z) fun v119 =>
        if mjCmp .eq v119 0 = true then
          f144_firstStruckAct_j45 (f144_firstStruckAct_h6 n) x0 x1 x2 x3 x4 v104 Z
        else
          f144_firstStruckAct_j46 (f144_firstStruckAct_h6 n) x0 x1 x2 x3 x4 v104 1 Z
        else none
      else none
    else none
theorem f144_firstStruckAct_h6_ok : ∀ (n : Nat) (x0 : Nat) (x1 : Nat) (x2 : Int32) (x3 : Int32) (x4 : Int32) (d5 d6 : Option Value) (Z : mjZt) (v9 : Int32), f144_firstStruckAct_h6 n x0 x1 x2 x3 x4 Z = some v9 → pG 144 6 [some (.ref x0), some (.ref x1), some (.int x2), some (.int x3), some (.int x4), d5, d6] [] (mjTo Z) (fun r M1 => r = some (.int v9) ∧ M1 = mjTo Z)
  | 0, x0, x1, x2, x3, x4, d5, d6, Z, v9, h => by rw [f144_firstStruckAct_h6] at h; cases h
  | n + 1, x0, x1, x2, x3, x4, d5, d6, Z, v9, h => by
      rw [f144_firstStruckAct_h6] at h
      refine pG_many 2 (pc1 := 9) (L1 := [some (.ref x0), some (.ref x1), some (.int x2), some (.int x3), some (.int x4), d5, d6]) (st1 := [.ref x1, .int x4]) (M1 := mjTo Z) rfl ?_
      have hk101 : mjIs x1 251 2 = true := by
        by_cases q9 : mjIs x1 251 2 = true
        · exact q9
        · rw [if_neg q9] at h; cases h
      rw [if_pos hk101] at h
      refine pG_getI (ci := 2) (f := 7) rfl rfl (Or.inl rfl) hk101 ?_
      by_cases hc102 : mjCmp .ge x4 (Z.1 x1 7) = true
      · rw [if_pos hc102] at h
        refine pG_cmt (t := 84) rfl rfl hc102 ?_
        refine pG_many 1 (pc1 := 85) (L1 := [some (.ref x0), some (.ref x1), some (.int x2), some (.int x3), some (.int x4), d5, d6]) (st1 := [.int x3]) (M1 := mjTo Z) rfl ?_
        simp only [Option.some.injEq] at h
        subst h
        exact pG_ret (r := some (.int x3)) rfl ⟨rfl, rfl⟩
      · rw [if_neg hc102] at h
        refine pG_cmf (t := 84) rfl rfl hc102 ?_
        refine pG_many 2 (pc1 := 18) (L1 := [some (.ref x0), some (.ref x1), some (.int x2), some (.int x3), some (.int x4), d5, d6]) (st1 := [.int x4, .ref x1]) (M1 := mjTo Z) rfl ?_
        cases hq103 : f6_deed x1 x4 Z with
        | none => rw [hq103] at h; cases h
        | some v104 =>
          rw [hq103, mjBp_some] at h
          refine pG_callV (k2 := 6) (As := [.ref x1, .int x4]) (rest := []) rfl rfl rfl rfl rfl (mjRcv_is hk101 (by decide)) (by decide) (f6_deed_ok hq103) ?_
          rintro r9 M9 ⟨rfl, rfl⟩
          show pG 144 21 [some (.ref x0), some (.ref x1), some (.int x2), some (.int x3), some (.int x4), d5, d6] [.ref v104] (mjTo Z) _
          refine pG_many 2 (pc1 := 25) (L1 := [some (.ref x0), some (.ref x1), some (.int x2), some (.int x3), some (.int x4), some (.ref v104), d6]) (st1 := [.ref v104]) (M1 := mjTo Z) rfl ?_
          have hk106 : mjIs v104 251 0 = true := by
            by_cases q9 : mjIs v104 251 0 = true
            · exact q9
            · rw [if_neg q9] at h; cases h
          rw [if_pos hk106] at h
          refine pG_getI (ci := 0) (f := 1) rfl rfl (Or.inl rfl) hk106 ?_
          refine pG_many 1 (pc1 := 29) (L1 := [some (.ref x0), some (.ref x1), some (.int x2), some (.int x3), some (.int x4), some (.ref v104), d6]) (st1 := [.int x2, .int (Z.1 v104 1)]) (M1 := mjTo Z) rfl ?_
          by_cases hc107 : mjCmp .ne (Z.1 v104 1) x2 = true
          · rw [if_pos hc107] at h
            refine pG_cmt (t := 45) rfl rfl hc107 ?_
            exact f144_firstStruckAct_j45_ok (f144_firstStruckAct_h6 n) (fun x0 x1 x2 x3 x4 d5 d6 Z v9 h => f144_firstStruckAct_h6_ok n x0 x1 x2 x3 x4 d5 d6 Z v9 h) x0 x1 x2 x3 x4 v104 d6 Z v9 h
          · rw [if_neg hc107] at h
            refine pG_cmf (t := 45) rfl rfl hc107 ?_
            refine pG_many 2 (pc1 := 35) (L1 := [some (.ref x0), some (.ref x1), some (.int x2), some (.int x3), some (.int x4), some (.ref v104), d6]) (st1 := [.int x4, .ref x0]) (M1 := mjTo Z) rfl ?_
            have hk117 : mjIs x0 251 10 = true := by
              by_cases q9 : mjIs x0 251 10 = true
              · exact q9
              · rw [if_neg q9] at h; cases h
            rw [if_pos hk117] at h
            cases hq118 : f142_rulesStriking x0 x4 Z with
            | none => rw [hq118] at h; cases h
            | some v119 =>
              rw [hq118, mjBp_some] at h
              refine pG_callV (k2 := 142) (As := [.ref x0, .int x4]) (rest := []) rfl rfl rfl rfl rfl (mjRcv_is hk117 (by decide)) (by decide) (f142_rulesStriking_ok hq118) ?_
              rintro r9 M9 ⟨rfl, rfl⟩
              show pG 144 38 [some (.ref x0), some (.ref x1), some (.int x2), some (.int x3), some (.int x4), some (.ref v104), d6] [.int v119] (mjTo Z) _
              by_cases hc121 : mjCmp .eq v119 0 = true
              · rw [if_pos hc121] at h
                refine pG_ift (t := 45) rfl rfl hc121 ?_
                exact f144_firstStruckAct_j45_ok (f144_firstStruckAct_h6 n) (fun x0 x1 x2 x3 x4 d5 d6 Z v9 h => f144_firstStruckAct_h6_ok n x0 x1 x2 x3 x4 d5 d6 Z v9 h) x0 x1 x2 x3 x4 v104 d6 Z v9 h
              · rw [if_neg hc121] at h
                refine pG_iff (t := 45) rfl rfl hc121 ?_
                refine pG_many 2 (pc1 := 46) (L1 := [some (.ref x0), some (.ref x1), some (.int x2), some (.int x3), some (.int x4), some (.ref v104), d6]) (st1 := [.int 1]) (M1 := mjTo Z) rfl ?_
                exact f144_firstStruckAct_j46_ok (f144_firstStruckAct_h6 n) (fun x0 x1 x2 x3 x4 d5 d6 Z v9 h => f144_firstStruckAct_h6_ok n x0 x1 x2 x3 x4 d5 d6 Z v9 h) x0 x1 x2 x3 x4 v104 1 d6 Z v9 h
def f144_firstStruckAct (a0 : Nat) (p0 : Nat) (p1 : Int32) (Z : mjZt) : Option Int32 :=
  f144_firstStruckAct_h6 mjF a0 p0 p1 ((-2)) 0 Z
theorem f144_firstStruckAct_ok {a0 : Nat} {p0 : Nat} {p1 : Int32} {Z : mjZt} {v9 : Int32} (h : f144_firstStruckAct a0 p0 p1 Z = some v9) : pG 144 0 (mjEnt [.ref a0, .ref p0, .int p1] (mjML 144)) [] (mjTo Z) (fun r M1 => r = some (.int v9) ∧ M1 = mjTo Z) := by
  unfold f144_firstStruckAct at h
  show pG 144 0 [some (.ref a0), some (.ref p0), some (.int p1), none, none, none, none] [] (mjTo Z) _
  refine pG_many 4 (pc1 := 6) (L1 := [some (.ref a0), some (.ref p0), some (.int p1), some (.int ((-2))), some (.int 0), none, none]) (st1 := []) (M1 := mjTo Z) rfl ?_
  exact f144_firstStruckAct_h6_ok mjF a0 p0 p1 ((-2)) 0 none none Z v9 h
def f145_struckActs_h5 : Nat → Nat → Nat → Int32 → Int32 → Int32 → mjZt → Option Int32
  | 0, _, _, _, _, _, _ => none
  | n + 1, x0, x1, x2, x3, x4, Z =>
    if mjIs x1 251 2 = true then
    if mjCmp .ge x4 (Z.1 x1 7) = true then
      some x3
    else
      mjBp (f6_deed x1 x4 Z) fun v104 =>
      if mjIs v104 251 0 = true then
      if mjCmp .ne (Z.1 v104 1) x2 = true then
        f145_struckActs_h5 n x0 x1 x2 x3 (x4 + 1) Z
      else
        if mjIs x0 251 10 = true then
        mjBp (f142_rulesStriking x0 x4 Z) fun v110 =>
        if mjCmp .eq v110 0 = true then
          f145_struckActs_h5 n x0 x1 x2 x3 (x4 + 1) Z
        else
          f145_struckActs_h5 n x0 x1 x2 (x3 + 1) (x4 + 1) Z
        else none
      else none
    else none
theorem f145_struckActs_h5_ok : ∀ (n : Nat) (x0 : Nat) (x1 : Nat) (x2 : Int32) (x3 : Int32) (x4 : Int32) (Z : mjZt) (v9 : Int32), f145_struckActs_h5 n x0 x1 x2 x3 x4 Z = some v9 → pG 145 5 [some (.ref x0), some (.ref x1), some (.int x2), some (.int x3), some (.int x4)] [] (mjTo Z) (fun r M1 => r = some (.int v9) ∧ M1 = mjTo Z)
  | 0, x0, x1, x2, x3, x4, Z, v9, h => by rw [f145_struckActs_h5] at h; cases h
  | n + 1, x0, x1, x2, x3, x4, Z, v9, h => by
      rw [f145_struckActs_h5] at h
      refine pG_many 2 (pc1 := 8) (L1 := [some (.ref x0), some (.ref x1), some (.int x2), some (.int x3), some (.int x4)]) (st1 := [.ref x1, .int x4]) (M1 := mjTo Z) rfl ?_
      have hk101 : mjIs x1 251 2 = true := by
        by_cases q9 : mjIs x1 251 2 = true
        · exact q9
        · rw [if_neg q9] at h; cases h
      rw [if_pos hk101] at h
      refine pG_getI (ci := 2) (f := 7) rfl rfl (Or.inl rfl) hk101 ?_
      by_cases hc102 : mjCmp .ge x4 (Z.1 x1 7) = true
      · rw [if_pos hc102] at h
        refine pG_cmt (t := 45) rfl rfl hc102 ?_
        refine pG_many 1 (pc1 := 46) (L1 := [some (.ref x0), some (.ref x1), some (.int x2), some (.int x3), some (.int x4)]) (st1 := [.int x3]) (M1 := mjTo Z) rfl ?_
        simp only [Option.some.injEq] at h
        subst h
        exact pG_ret (r := some (.int x3)) rfl ⟨rfl, rfl⟩
      · rw [if_neg hc102] at h
        refine pG_cmf (t := 45) rfl rfl hc102 ?_
        refine pG_many 2 (pc1 := 17) (L1 := [some (.ref x0), some (.ref x1), some (.int x2), some (.int x3), some (.int x4)]) (st1 := [.int x4, .ref x1]) (M1 := mjTo Z) rfl ?_
        cases hq103 : f6_deed x1 x4 Z with
        | none => rw [hq103] at h; cases h
        | some v104 =>
          rw [hq103, mjBp_some] at h
          refine pG_callV (k2 := 6) (As := [.ref x1, .int x4]) (rest := []) rfl rfl rfl rfl rfl (mjRcv_is hk101 (by decide)) (by decide) (f6_deed_ok hq103) ?_
          rintro r9 M9 ⟨rfl, rfl⟩
          show pG 145 20 [some (.ref x0), some (.ref x1), some (.int x2), some (.int x3), some (.int x4)] [.ref v104] (mjTo Z) _
          have hk106 : mjIs v104 251 0 = true := by
            by_cases q9 : mjIs v104 251 0 = true
            · exact q9
            · rw [if_neg q9] at h; cases h
          rw [if_pos hk106] at h
          refine pG_getI (ci := 0) (f := 1) rfl rfl (Or.inl rfl) hk106 ?_
          refine pG_many 1 (pc1 := 24) (L1 := [some (.ref x0), some (.ref x1), some (.int x2), some (.int x3), some (.int x4)]) (st1 := [.int x2, .int (Z.1 v104 1)]) (M1 := mjTo Z) rfl ?_
          by_cases hc107 : mjCmp .ne (Z.1 v104 1) x2 = true
          · rw [if_pos hc107] at h
            refine pG_cmt (t := 39) rfl rfl hc107 ?_
            refine pG_many 2 (pc1 := 5) (L1 := [some (.ref x0), some (.ref x1), some (.int x2), some (.int x3), some (.int (x4 + 1))]) (st1 := []) (M1 := mjTo Z) rfl ?_
            exact f145_struckActs_h5_ok n x0 x1 x2 x3 (x4 + 1) Z v9 h
          · rw [if_neg hc107] at h
            refine pG_cmf (t := 39) rfl rfl hc107 ?_
            refine pG_many 2 (pc1 := 30) (L1 := [some (.ref x0), some (.ref x1), some (.int x2), some (.int x3), some (.int x4)]) (st1 := [.int x4, .ref x0]) (M1 := mjTo Z) rfl ?_
            have hk108 : mjIs x0 251 10 = true := by
              by_cases q9 : mjIs x0 251 10 = true
              · exact q9
              · rw [if_neg q9] at h; cases h
            rw [if_pos hk108] at h
            cases hq109 : f142_rulesStriking x0 x4 Z with
            | none => rw [hq109] at h; cases h
            | some v110 =>
              rw [hq109, mjBp_some] at h
              refine pG_callV (k2 := 142) (As := [.ref x0, .int x4]) (rest := []) rfl rfl rfl rfl rfl (mjRcv_is hk108 (by decide)) (by decide) (f142_rulesStriking_ok hq109) ?_
              rintro r9 M9 ⟨rfl, rfl⟩
              show pG 145 33 [some (.ref x0), some (.ref x1), some (.int x2), some (.int x3), some (.int x4)] [.int v110] (mjTo Z) _
              by_cases hc112 : mjCmp .eq v110 0 = true
              · rw [if_pos hc112] at h
                refine pG_ift (t := 39) rfl rfl hc112 ?_
                refine pG_many 2 (pc1 := 5) (L1 := [some (.ref x0), some (.ref x1), some (.int x2), some (.int x3), some (.int (x4 + 1))]) (st1 := []) (M1 := mjTo Z) rfl ?_
                exact f145_struckActs_h5_ok n x0 x1 x2 x3 (x4 + 1) Z v9 h
              · rw [if_neg hc112] at h
                refine pG_iff (t := 39) rfl rfl hc112 ?_
                refine pG_many 3 (pc1 := 5) (L1 := [some (.ref x0), some (.ref x1), some (.int x2), some (.int (x3 + 1)), some (.int (x4 + 1))]) (st1 := []) (M1 := mjTo Z) rfl ?_
                exact f145_struckActs_h5_ok n x0 x1 x2 (x3 + 1) (x4 + 1) Z v9 h
def f145_struckActs (a0 : Nat) (p0 : Nat) (p1 : Int32) (Z : mjZt) : Option Int32 :=
  f145_struckActs_h5 mjF a0 p0 p1 0 0 Z
theorem f145_struckActs_ok {a0 : Nat} {p0 : Nat} {p1 : Int32} {Z : mjZt} {v9 : Int32} (h : f145_struckActs a0 p0 p1 Z = some v9) : pG 145 0 (mjEnt [.ref a0, .ref p0, .int p1] (mjML 145)) [] (mjTo Z) (fun r M1 => r = some (.int v9) ∧ M1 = mjTo Z) := by
  unfold f145_struckActs at h
  show pG 145 0 [some (.ref a0), some (.ref p0), some (.int p1), none, none] [] (mjTo Z) _
  refine pG_many 4 (pc1 := 5) (L1 := [some (.ref a0), some (.ref p0), some (.int p1), some (.int 0), some (.int 0)]) (st1 := []) (M1 := mjTo Z) rfl ?_
  exact f145_struckActs_h5_ok mjF a0 p0 p1 0 0 Z v9 h
