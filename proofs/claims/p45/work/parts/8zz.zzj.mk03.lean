/-! the law's feeds, all, law, translated-/
noncomputable def g198_feeds_h20 (sg : Nat → Nat) (K : Nat → Nat → Int32 → Nat → mjQ → Option (Int32 × mjQ)) : Nat → Nat → Nat → Int32 → Nat → Int32 → mjQ → Option (Int32 × mjQ)
  | 0, _, _, _, _, _, _ => none
  | n + 1, x0, x1, x3, x4, x5, Z =>
    if mjCmp .ge x5 20 = true then
      K x0 x1 x3 x4 Z
    else
      mjBp (qIa Z.2 x4 (x5 / 4)) fun v127 =>
      if mjRo Z.2 x1 18 = true then
      mjBp (g170_length x1 Z) fun v131 =>
      if mjCmp .ge (x3 + x5) v131 = true then
        mjBp (qSia Z x4 (x5 / 4) (((v127 : Int32) <<< ((8 : Int32) &&& 31)) ||| 32)) fun Z134 =>
        g198_feeds_h20 sg K n x0 x1 x3 x4 (x5 + 1) Z134
      else
        mjBp (g172_charAt x1 (x3 + x5) Z) fun v137 =>
        mjBp (qSia Z x4 (x5 / 4) (((v127 : Int32) <<< ((8 : Int32) &&& 31)) ||| v137)) fun Z139 =>
        g198_feeds_h20 sg K n x0 x1 x3 x4 (x5 + 1) Z139
      else none
set_option maxRecDepth 100000 in
theorem g198_feeds_h20_ok {sg : Nat → Nat} (K : Nat → Nat → Int32 → Nat → mjQ → Option (Int32 × mjQ)) (hK : ∀ (x0 : Nat) (x1 : Nat) (x3 : Int32) (x4 : Nat) (d2 d5 : Option Value) (Z : mjQ) (v9 : Int32) (Z9 : mjQ), K x0 x1 x3 x4 Z = some (v9, Z9) → pE sg 90 198 75 [some (.ref x0), some (.ref x1), d2, some (.int x3), some (.ref x4), d5] [] Z (fun r M1 => r = some (.int v9) ∧ M1 = Z9)) : ∀ (n : Nat) (x0 : Nat) (x1 : Nat) (x3 : Int32) (x4 : Nat) (x5 : Int32) (d2 : Option Value) (Z : mjQ) (v9 : Int32) (Z9 : mjQ), g198_feeds_h20 sg K n x0 x1 x3 x4 x5 Z = some (v9, Z9) → pE sg 90 198 20 [some (.ref x0), some (.ref x1), d2, some (.int x3), some (.ref x4), some (.int x5)] [] Z (fun r M1 => r = some (.int v9) ∧ M1 = Z9)
  | 0, x0, x1, x3, x4, x5, d2, Z, v9, Z9, h => by rw [g198_feeds_h20] at h; cases h
  | n + 1, x0, x1, x3, x4, x5, d2, Z, v9, Z9, h => by
      rw [g198_feeds_h20] at h
      refine pE_many 2 (pc1 := 24) (L1 := [some (.ref x0), some (.ref x1), d2, some (.int x3), some (.ref x4), some (.int x5)]) (st1 := [.int 20, .int x5]) rfl ?_
      by_cases hc126 : mjCmp .ge x5 20 = true
      · rw [if_pos hc126] at h
        refine pE_cmt (t := 75) rfl rfl hc126 ?_
        exact hK x0 x1 x3 x4 d2 (some (.int x5)) Z v9 Z9 h
      · rw [if_neg hc126] at h
        refine pE_cmf (t := 75) rfl rfl hc126 ?_
        refine pE_many 3 (pc1 := 32) (L1 := [some (.ref x0), some (.ref x1), d2, some (.int x3), some (.ref x4), some (.int x5)]) (st1 := [.int 4, .int x5, .ref x4]) rfl ?_
        refine pE_div rfl (by decide) ?_
        refine pE_many 3 (pc1 := 38) (L1 := [some (.ref x0), some (.ref x1), d2, some (.int x3), some (.ref x4), some (.int x5)]) (st1 := [.int 4, .int x5, .ref x4, .int (x5 / 4), .ref x4]) rfl ?_
        refine pE_div rfl (by decide) ?_
        cases hq128 : qIa Z.2 x4 (x5 / 4) with
        | none => rw [hq128] at h; cases h
        | some v127 =>
          rw [hq128, mjBp_some] at h
          refine pE_ial rfl hq128 ?_
          refine pE_many 6 (pc1 := 48) (L1 := [some (.ref x0), some (.ref x1), d2, some (.int x3), some (.ref x4), some (.int x5)]) (st1 := [.ref x1, .int (x3 + x5), .int ((v127 : Int32) <<< ((8 : Int32) &&& 31)), .int (x5 / 4), .ref x4]) rfl ?_
          have hk129 : mjRo Z.2 x1 18 = true := by
            by_cases q9 : mjRo Z.2 x1 18 = true
            · exact q9
            · rw [if_neg q9] at h; cases h
          rw [if_pos hk129] at h
          cases hq130 : g170_length x1 Z with
          | none => rw [hq130] at h; cases h
          | some v131 =>
            rw [hq130, mjBp_some] at h
            refine pE_callV (k2 := 170) (As := []) (rest := [.int (x3 + x5), .int ((v127 : Int32) <<< ((8 : Int32) &&& 31)), .int (x5 / 4), .ref x4]) rfl rfl rfl rfl rfl rfl hk129 (by decide) (by decide) (by decide) (g170_length_ok hq130) ?_
            show pE sg 90 198 51 [some (.ref x0), some (.ref x1), d2, some (.int x3), some (.ref x4), some (.int x5)] [.int v131, .int (x3 + x5), .int ((v127 : Int32) <<< ((8 : Int32) &&& 31)), .int (x5 / 4), .ref x4] Z _
            by_cases hc133 : mjCmp .ge (x3 + x5) v131 = true
            · rw [if_pos hc133] at h
              refine pE_cmt (t := 65) rfl rfl hc133 ?_
              refine pE_many 2 (pc1 := 68) (L1 := [some (.ref x0), some (.ref x1), d2, some (.int x3), some (.ref x4), some (.int x5)]) (st1 := [.int (((v127 : Int32) <<< ((8 : Int32) &&& 31)) ||| 32), .int (x5 / 4), .ref x4]) rfl ?_
              cases hq135 : qSia Z x4 (x5 / 4) (((v127 : Int32) <<< ((8 : Int32) &&& 31)) ||| 32) with
              | none => rw [hq135] at h; cases h
              | some Z134 =>
                rw [hq135, mjBp_some] at h
                refine pE_ias rfl (by decide) hq135 ?_
                refine pE_many 2 (pc1 := 20) (L1 := [some (.ref x0), some (.ref x1), d2, some (.int x3), some (.ref x4), some (.int (x5 + 1))]) (st1 := []) rfl ?_
                exact g198_feeds_h20_ok K hK n x0 x1 x3 x4 (x5 + 1) d2 Z134 v9 Z9 h
            · rw [if_neg hc133] at h
              refine pE_cmf (t := 65) rfl rfl hc133 ?_
              refine pE_many 4 (pc1 := 59) (L1 := [some (.ref x0), some (.ref x1), d2, some (.int x3), some (.ref x4), some (.int x5)]) (st1 := [.int (x3 + x5), .ref x1, .int ((v127 : Int32) <<< ((8 : Int32) &&& 31)), .int (x5 / 4), .ref x4]) rfl ?_
              cases hq136 : g172_charAt x1 (x3 + x5) Z with
              | none => rw [hq136] at h; cases h
              | some v137 =>
                rw [hq136, mjBp_some] at h
                refine pE_callV (k2 := 172) (As := [.int (x3 + x5)]) (rest := [.int ((v127 : Int32) <<< ((8 : Int32) &&& 31)), .int (x5 / 4), .ref x4]) rfl rfl rfl rfl rfl rfl hk129 (by decide) (by decide) (by decide) (g172_charAt_ok hq136) ?_
                show pE sg 90 198 62 [some (.ref x0), some (.ref x1), d2, some (.int x3), some (.ref x4), some (.int x5)] [.int v137, .int ((v127 : Int32) <<< ((8 : Int32) &&& 31)), .int (x5 / 4), .ref x4] Z _
                refine pE_many 2 (pc1 := 68) (L1 := [some (.ref x0), some (.ref x1), d2, some (.int x3), some (.ref x4), some (.int x5)]) (st1 := [.int (((v127 : Int32) <<< ((8 : Int32) &&& 31)) ||| v137), .int (x5 / 4), .ref x4]) rfl ?_
                cases hq140 : qSia Z x4 (x5 / 4) (((v127 : Int32) <<< ((8 : Int32) &&& 31)) ||| v137) with
                | none => rw [hq140] at h; cases h
                | some Z139 =>
                  rw [hq140, mjBp_some] at h
                  refine pE_ias rfl (by decide) hq140 ?_
                  refine pE_many 2 (pc1 := 20) (L1 := [some (.ref x0), some (.ref x1), d2, some (.int x3), some (.ref x4), some (.int (x5 + 1))]) (st1 := []) rfl ?_
                  exact g198_feeds_h20_ok K hK n x0 x1 x3 x4 (x5 + 1) d2 Z139 v9 Z9 h
noncomputable def g198_feeds_h4 (sg : Nat → Nat) : Nat → Nat → Nat → Int32 → Int32 → mjQ → Option (Int32 × mjQ)
  | 0, _, _, _, _, _ => none
  | n + 1, x0, x1, x2, x3, Z =>
    if mjRo Z.2 x1 18 = true then
    mjBp (g170_length x1 Z) fun v103 =>
    if mjCmp .ge x3 v103 = true then
      if mjCmp .lt x2 v103 = true then
        some (0, Z)
      else
        if x0 = 0 then
        if mjRo Z.2 x0 11 = true then
        mjBq (qCl (fun Zc => f150_end v103 Zc) Z) fun v115 Z114 =>
        if mjRo Z114.2 x1 18 = true then
        mjBp (g170_length x1 Z114) fun v120 =>
        if mjCmp .ne v115 v120 = true then
          some (0, Z114)
        else
          some (1, Z114)
        else none
        else none
        else none
    else
      mjBq (qNewA sg Z 113 5) fun v123 Z125 =>
      g198_feeds_h20 sg (fun x0_Z141 x1_Z141 x3_Z141 x4_Z141 Z141 =>
        mjBp (qIa Z141.2 x4_Z141 0) fun v142 =>
        mjBp (qIa Z141.2 x4_Z141 1) fun v144 =>
        mjBp (qIa Z141.2 x4_Z141 2) fun v146 =>
        mjBp (qIa Z141.2 x4_Z141 3) fun v148 =>
        mjBp (qIa Z141.2 x4_Z141 4) fun v150 =>
        if x0_Z141 = 0 then
        if mjRo Z141.2 x0_Z141 11 = true then
        mjBq (qCl (fun Zc => f149_feed v142 v144 v146 v148 v150 Zc) Z141) fun v154 Z153 =>
        g198_feeds_h4 sg n x0_Z141 x1_Z141 v154 (x3_Z141 + 20) Z153
        else none
        else none
        ) mjF x0 x1 x3 v123 0 Z125
    else none
set_option maxRecDepth 100000 in
theorem g198_feeds_h4_ok {sg : Nat → Nat} : ∀ (n : Nat) (x0 : Nat) (x1 : Nat) (x2 : Int32) (x3 : Int32) (d4 d5 : Option Value) (Z : mjQ) (v9 : Int32) (Z9 : mjQ), g198_feeds_h4 sg n x0 x1 x2 x3 Z = some (v9, Z9) → pE sg 90 198 4 [some (.ref x0), some (.ref x1), some (.int x2), some (.int x3), d4, d5] [] Z (fun r M1 => r = some (.int v9) ∧ M1 = Z9)
  | 0, x0, x1, x2, x3, d4, d5, Z, v9, Z9, h => by rw [g198_feeds_h4] at h; cases h
  | n + 1, x0, x1, x2, x3, d4, d5, Z, v9, Z9, h => by
      rw [g198_feeds_h4] at h
      refine pE_many 2 (pc1 := 6) (L1 := [some (.ref x0), some (.ref x1), some (.int x2), some (.int x3), d4, d5]) (st1 := [.ref x1, .int x3]) rfl ?_
      have hk101 : mjRo Z.2 x1 18 = true := by
        by_cases q9 : mjRo Z.2 x1 18 = true
        · exact q9
        · rw [if_neg q9] at h; cases h
      rw [if_pos hk101] at h
      cases hq102 : g170_length x1 Z with
      | none => rw [hq102] at h; cases h
      | some v103 =>
        rw [hq102, mjBp_some] at h
        refine pE_callV (k2 := 170) (As := []) (rest := [.int x3]) rfl rfl rfl rfl rfl rfl hk101 (by decide) (by decide) (by decide) (g170_length_ok hq102) ?_
        show pE sg 90 198 9 [some (.ref x0), some (.ref x1), some (.int x2), some (.int x3), d4, d5] [.int v103, .int x3] Z _
        by_cases hc105 : mjCmp .ge x3 v103 = true
        · rw [if_pos hc105] at h
          refine pE_cmt (t := 106) rfl rfl hc105 ?_
          refine pE_many 2 (pc1 := 108) (L1 := [some (.ref x0), some (.ref x1), some (.int x2), some (.int x3), d4, d5]) (st1 := [.ref x1, .int x2]) rfl ?_
          refine pE_callV (k2 := 170) (As := []) (rest := [.int x2]) rfl rfl rfl rfl rfl rfl hk101 (by decide) (by decide) (by decide) (g170_length_ok hq102) ?_
          show pE sg 90 198 111 [some (.ref x0), some (.ref x1), some (.int x2), some (.int x3), d4, d5] [.int v103, .int x2] Z _
          by_cases hc109 : mjCmp .lt x2 v103 = true
          · rw [if_pos hc109] at h
            refine pE_cmt (t := 133) rfl rfl hc109 ?_
            refine pE_many 1 (pc1 := 134) (L1 := [some (.ref x0), some (.ref x1), some (.int x2), some (.int x3), d4, d5]) (st1 := [.int 0]) rfl ?_
            simp only [Option.some.injEq, Prod.mk.injEq] at h
            obtain ⟨rfl, rfl⟩ := h
            exact pE_ret (r := some (.int 0)) rfl ⟨rfl, rfl⟩
          · rw [if_neg hc109] at h
            refine pE_cmf (t := 133) rfl rfl hc109 ?_
            refine pE_many 2 (pc1 := 116) (L1 := [some (.ref x0), some (.ref x1), some (.int x2), some (.int x3), d4, d5]) (st1 := [.ref x1, .ref x0]) rfl ?_
            refine pE_callV (k2 := 170) (As := []) (rest := [.ref x0]) rfl rfl rfl rfl rfl rfl hk101 (by decide) (by decide) (by decide) (g170_length_ok hq102) ?_
            show pE sg 90 198 119 [some (.ref x0), some (.ref x1), some (.int x2), some (.int x3), d4, d5] [.int v103, .ref x0] Z _
            have hk116 : x0 = 0 := by
              by_cases q9 : x0 = 0
              · exact q9
              · rw [if_neg q9] at h; cases h
            rw [if_pos hk116] at h
            have hk117 : mjRo Z.2 x0 11 = true := by
              by_cases q9 : mjRo Z.2 x0 11 = true
              · exact q9
              · rw [if_neg q9] at h; cases h
            rw [if_pos hk117] at h
            cases hq113 : qCl (fun Zc => f150_end v103 Zc) Z with
            | none => rw [hq113] at h; cases h
            | some w =>
              obtain ⟨v115, Z114⟩ := w
              rw [hq113, mjBq_some] at h
              refine pE_callV (k2 := 137) (As := [.int v103]) (rest := []) rfl rfl rfl rfl rfl rfl hk117 (by decide) (by decide) (by decide) (pE_cls (rv := (fun v => some (.int v))) hq113 (fun _ _ _ h9 => by rw [hk116]; exact f150_end_ok h9)) ?_
              show pE sg 90 198 122 [some (.ref x0), some (.ref x1), some (.int x2), some (.int x3), d4, d5] [.int v115] Z114 _
              refine pE_many 1 (pc1 := 123) (L1 := [some (.ref x0), some (.ref x1), some (.int x2), some (.int x3), d4, d5]) (st1 := [.ref x1, .int v115]) rfl ?_
              have hk118 : mjRo Z114.2 x1 18 = true := by
                by_cases q9 : mjRo Z114.2 x1 18 = true
                · exact q9
                · rw [if_neg q9] at h; cases h
              rw [if_pos hk118] at h
              cases hq119 : g170_length x1 Z114 with
              | none => rw [hq119] at h; cases h
              | some v120 =>
                rw [hq119, mjBp_some] at h
                refine pE_callV (k2 := 170) (As := []) (rest := [.int v115]) rfl rfl rfl rfl rfl rfl hk118 (by decide) (by decide) (by decide) (g170_length_ok hq119) ?_
                show pE sg 90 198 126 [some (.ref x0), some (.ref x1), some (.int x2), some (.int x3), d4, d5] [.int v120, .int v115] Z114 _
                by_cases hc122 : mjCmp .ne v115 v120 = true
                · rw [if_pos hc122] at h
                  refine pE_cmt (t := 133) rfl rfl hc122 ?_
                  refine pE_many 1 (pc1 := 134) (L1 := [some (.ref x0), some (.ref x1), some (.int x2), some (.int x3), d4, d5]) (st1 := [.int 0]) rfl ?_
                  simp only [Option.some.injEq, Prod.mk.injEq] at h
                  obtain ⟨rfl, rfl⟩ := h
                  exact pE_ret (r := some (.int 0)) rfl ⟨rfl, rfl⟩
                · rw [if_neg hc122] at h
                  refine pE_cmf (t := 133) rfl rfl hc122 ?_
                  refine pE_many 2 (pc1 := 134) (L1 := [some (.ref x0), some (.ref x1), some (.int x2), some (.int x3), d4, d5]) (st1 := [.int 1]) rfl ?_
                  simp only [Option.some.injEq, Prod.mk.injEq] at h
                  obtain ⟨rfl, rfl⟩ := h
                  exact pE_ret (r := some (.int 1)) rfl ⟨rfl, rfl⟩
        · rw [if_neg hc105] at h
          refine pE_cmf (t := 106) rfl rfl hc105 ?_
          refine pE_many 1 (pc1 := 13) (L1 := [some (.ref x0), some (.ref x1), some (.int x2), some (.int x3), d4, d5]) (st1 := [.int 5]) rfl ?_
          cases hq124 : qNewA sg Z 113 5 with
          | none => rw [hq124] at h; cases h
          | some w =>
            obtain ⟨v123, Z125⟩ := w
            rw [hq124, mjBq_some] at h
            refine pE_newA rfl rfl rfl rfl rfl (by decide) hq124 ?_
            refine pE_many 3 (pc1 := 20) (L1 := [some (.ref x0), some (.ref x1), some (.int x2), some (.int x3), some (.ref v123), some (.int 0)]) (st1 := []) rfl ?_
            refine g198_feeds_h20_ok _ ?_ mjF x0 x1 x3 v123 0 (some (.int x2)) Z125 v9 Z9 h
            clear h
            intro x0_Z141 x1_Z141 x3_Z141 x4_Z141 d2 d5 Z141 v9 Z9 h
            refine pE_many 3 (pc1 := 79) (L1 := [some (.ref x0_Z141), some (.ref x1_Z141), d2, some (.int x3_Z141), some (.ref x4_Z141), d5]) (st1 := [.int 0, .ref x4_Z141, .ref x0_Z141]) rfl ?_
            cases hq143 : qIa Z141.2 x4_Z141 0 with
            | none => rw [hq143] at h; cases h
            | some v142 =>
              rw [hq143, mjBp_some] at h
              refine pE_ial rfl hq143 ?_
              refine pE_many 2 (pc1 := 83) (L1 := [some (.ref x0_Z141), some (.ref x1_Z141), d2, some (.int x3_Z141), some (.ref x4_Z141), d5]) (st1 := [.int 1, .ref x4_Z141, .int v142, .ref x0_Z141]) rfl ?_
              cases hq145 : qIa Z141.2 x4_Z141 1 with
              | none => rw [hq145] at h; cases h
              | some v144 =>
                rw [hq145, mjBp_some] at h
                refine pE_ial rfl hq145 ?_
                refine pE_many 2 (pc1 := 87) (L1 := [some (.ref x0_Z141), some (.ref x1_Z141), d2, some (.int x3_Z141), some (.ref x4_Z141), d5]) (st1 := [.int 2, .ref x4_Z141, .int v144, .int v142, .ref x0_Z141]) rfl ?_
                cases hq147 : qIa Z141.2 x4_Z141 2 with
                | none => rw [hq147] at h; cases h
                | some v146 =>
                  rw [hq147, mjBp_some] at h
                  refine pE_ial rfl hq147 ?_
                  refine pE_many 2 (pc1 := 91) (L1 := [some (.ref x0_Z141), some (.ref x1_Z141), d2, some (.int x3_Z141), some (.ref x4_Z141), d5]) (st1 := [.int 3, .ref x4_Z141, .int v146, .int v144, .int v142, .ref x0_Z141]) rfl ?_
                  cases hq149 : qIa Z141.2 x4_Z141 3 with
                  | none => rw [hq149] at h; cases h
                  | some v148 =>
                    rw [hq149, mjBp_some] at h
                    refine pE_ial rfl hq149 ?_
                    refine pE_many 2 (pc1 := 95) (L1 := [some (.ref x0_Z141), some (.ref x1_Z141), d2, some (.int x3_Z141), some (.ref x4_Z141), d5]) (st1 := [.int 4, .ref x4_Z141, .int v148, .int v146, .int v144, .int v142, .ref x0_Z141]) rfl ?_
                    cases hq151 : qIa Z141.2 x4_Z141 4 with
                    | none => rw [hq151] at h; cases h
                    | some v150 =>
                      rw [hq151, mjBp_some] at h
                      refine pE_ial rfl hq151 ?_
                      have hk155 : x0_Z141 = 0 := by
                        by_cases q9 : x0_Z141 = 0
                        · exact q9
                        · rw [if_neg q9] at h; cases h
                      rw [if_pos hk155] at h
                      have hk156 : mjRo Z141.2 x0_Z141 11 = true := by
                        by_cases q9 : mjRo Z141.2 x0_Z141 11 = true
                        · exact q9
                        · rw [if_neg q9] at h; cases h
                      rw [if_pos hk156] at h
                      cases hq152 : qCl (fun Zc => f149_feed v142 v144 v146 v148 v150 Zc) Z141 with
                      | none => rw [hq152] at h; cases h
                      | some w =>
                        obtain ⟨v154, Z153⟩ := w
                        rw [hq152, mjBq_some] at h
                        refine pE_callV (k2 := 136) (As := [.int v142, .int v144, .int v146, .int v148, .int v150]) (rest := []) rfl rfl rfl rfl rfl rfl hk156 (by decide) (by decide) (by decide) (pE_cls (rv := (fun v => some (.int v))) hq152 (fun _ _ _ h9 => by rw [hk155]; exact f149_feed_ok h9)) ?_
                        show pE sg 90 198 99 [some (.ref x0_Z141), some (.ref x1_Z141), d2, some (.int x3_Z141), some (.ref x4_Z141), d5] [.int v154] Z153 _
                        refine pE_many 3 (pc1 := 4) (L1 := [some (.ref x0_Z141), some (.ref x1_Z141), some (.int v154), some (.int (x3_Z141 + 20)), some (.ref x4_Z141), d5]) (st1 := []) rfl ?_
                        exact g198_feeds_h4_ok n x0_Z141 x1_Z141 v154 (x3_Z141 + 20) (some (.ref x4_Z141)) d5 Z153 v9 Z9 h
noncomputable def g198_feeds (sg : Nat → Nat) (p0 : Nat) (p1 : Nat) (Z : mjQ) : Option (Int32 × mjQ) :=
  g198_feeds_h4 sg mjF p0 p1 0 0 Z
set_option maxRecDepth 100000 in
theorem g198_feeds_ok {sg : Nat → Nat} {p0 : Nat} {p1 : Nat} {Z : mjQ} {v9 : Int32} {Z9 : mjQ} (h : g198_feeds sg p0 p1 Z = some (v9, Z9)) : pE sg 90 198 0 (mjEnt [.ref p0, .ref p1] (mjML 198)) [] Z (fun r M1 => r = some (.int v9) ∧ M1 = Z9) := by
  unfold g198_feeds at h
  show pE sg 90 198 0 [some (.ref p0), some (.ref p1), none, none, none, none] [] Z _
  refine pE_many 4 (pc1 := 4) (L1 := [some (.ref p0), some (.ref p1), some (.int 0), some (.int 0), none, none]) (st1 := []) rfl ?_
  exact g198_feeds_h4_ok mjF p0 p1 0 0 none none Z v9 Z9 h
noncomputable def g199_all_h93 (sg : Nat → Nat) : Nat → Nat → Nat → Int32 → Int32 → mjQ → Option (Nat × mjQ)
  | 0, _, _, _, _, _ => none
  | n + 1, x0, x1, x2, x3, Z =>
    if mjCmp .ge x3 12 = true then
      if x0 = 0 then
      if mjRo Z.2 x0 11 = true then
      mjBp (qClp (fun Zc => f187_again  Zc) Z) fun v109 =>
      mjBp (qSia Z x1 x2 v109) fun Z112 =>
      some (x1, Z112)
      else none
      else none
    else
      if x0 = 0 then
      if mjRo Z.2 x0 11 = true then
      mjBp (qClp (fun Zc => f170_act x3 3 Zc) Z) fun v116 =>
      mjBp (qSia Z x1 x2 v116) fun Z119 =>
      if mjRo Z119.2 x0 11 = true then
      mjBp (qClp (fun Zc => f170_act x3 5 Zc) Z119) fun v123 =>
      mjBp (qSia Z119 x1 (x2 + 1) v123) fun Z125 =>
      g199_all_h93 sg n x0 x1 ((x2 + 1) + 1) (x3 + 1) Z125
      else none
      else none
      else none
set_option maxRecDepth 100000 in
theorem g199_all_h93_ok {sg : Nat → Nat} : ∀ (n : Nat) (x0 : Nat) (x1 : Nat) (x2 : Int32) (x3 : Int32) (Z : mjQ) (v9 : Nat) (Z9 : mjQ), g199_all_h93 sg n x0 x1 x2 x3 Z = some (v9, Z9) → pE sg 90 199 93 [some (.ref x0), some (.ref x1), some (.int x2), some (.int x3)] [] Z (fun r M1 => r = some (.ref v9) ∧ M1 = Z9)
  | 0, x0, x1, x2, x3, Z, v9, Z9, h => by rw [g199_all_h93] at h; cases h
  | n + 1, x0, x1, x2, x3, Z, v9, Z9, h => by
      rw [g199_all_h93] at h
      refine pE_many 2 (pc1 := 96) (L1 := [some (.ref x0), some (.ref x1), some (.int x2), some (.int x3)]) (st1 := [.int 12, .int x3]) rfl ?_
      by_cases hc106 : mjCmp .ge x3 12 = true
      · rw [if_pos hc106] at h
        refine pE_cmt (t := 129) rfl rfl hc106 ?_
        refine pE_many 3 (pc1 := 132) (L1 := [some (.ref x0), some (.ref x1), some (.int x2), some (.int x3)]) (st1 := [.ref x0, .int x2, .ref x1]) rfl ?_
        have hk110 : x0 = 0 := by
          by_cases q9 : x0 = 0
          · exact q9
          · rw [if_neg q9] at h; cases h
        rw [if_pos hk110] at h
        have hk111 : mjRo Z.2 x0 11 = true := by
          by_cases q9 : mjRo Z.2 x0 11 = true
          · exact q9
          · rw [if_neg q9] at h; cases h
        rw [if_pos hk111] at h
        cases hq107 : qClp (fun Zc => f187_again  Zc) Z with
        | none => rw [hq107] at h; cases h
        | some v109 =>
          rw [hq107, mjBp_some] at h
          refine pE_callV (k2 := 160) (As := []) (rest := [.int x2, .ref x1]) rfl rfl rfl rfl rfl rfl hk111 (by decide) (by decide) (by decide) (pE_clp (rv := (fun v => some (.int v))) hq107 (fun _ _ h9 => by rw [hk110]; exact f187_again_ok h9)) ?_
          show pE sg 90 199 135 [some (.ref x0), some (.ref x1), some (.int x2), some (.int x3)] [.int v109, .int x2, .ref x1] Z _
          cases hq113 : qSia Z x1 x2 v109 with
          | none => rw [hq113] at h; cases h
          | some Z112 =>
            rw [hq113, mjBp_some] at h
            refine pE_ias rfl (by decide) hq113 ?_
            refine pE_many 1 (pc1 := 137) (L1 := [some (.ref x0), some (.ref x1), some (.int x2), some (.int x3)]) (st1 := [.ref x1]) rfl ?_
            simp only [Option.some.injEq, Prod.mk.injEq] at h
            obtain ⟨rfl, rfl⟩ := h
            exact pE_ret (r := some (.ref x1)) rfl ⟨rfl, rfl⟩
      · rw [if_neg hc106] at h
        refine pE_cmf (t := 129) rfl rfl hc106 ?_
        refine pE_many 6 (pc1 := 107) (L1 := [some (.ref x0), some (.ref x1), some (.int (x2 + 1)), some (.int x3)]) (st1 := [.int 3, .int x3, .ref x0, .int x2, .ref x1]) rfl ?_
        have hk117 : x0 = 0 := by
          by_cases q9 : x0 = 0
          · exact q9
          · rw [if_neg q9] at h; cases h
        rw [if_pos hk117] at h
        have hk118 : mjRo Z.2 x0 11 = true := by
          by_cases q9 : mjRo Z.2 x0 11 = true
          · exact q9
          · rw [if_neg q9] at h; cases h
        rw [if_pos hk118] at h
        cases hq114 : qClp (fun Zc => f170_act x3 3 Zc) Z with
        | none => rw [hq114] at h; cases h
        | some v116 =>
          rw [hq114, mjBp_some] at h
          refine pE_callV (k2 := 149) (As := [.int x3, .int 3]) (rest := [.int x2, .ref x1]) rfl rfl rfl rfl rfl rfl hk118 (by decide) (by decide) (by decide) (pE_clp (rv := (fun v => some (.int v))) hq114 (fun _ _ h9 => by rw [hk117]; exact f170_act_ok h9)) ?_
          show pE sg 90 199 110 [some (.ref x0), some (.ref x1), some (.int (x2 + 1)), some (.int x3)] [.int v116, .int x2, .ref x1] Z _
          cases hq120 : qSia Z x1 x2 v116 with
          | none => rw [hq120] at h; cases h
          | some Z119 =>
            rw [hq120, mjBp_some] at h
            refine pE_ias rfl (by decide) hq120 ?_
            refine pE_many 6 (pc1 := 119) (L1 := [some (.ref x0), some (.ref x1), some (.int ((x2 + 1) + 1)), some (.int x3)]) (st1 := [.int 5, .int x3, .ref x0, .int (x2 + 1), .ref x1]) rfl ?_
            have hk124 : mjRo Z119.2 x0 11 = true := by
              by_cases q9 : mjRo Z119.2 x0 11 = true
              · exact q9
              · rw [if_neg q9] at h; cases h
            rw [if_pos hk124] at h
            cases hq121 : qClp (fun Zc => f170_act x3 5 Zc) Z119 with
            | none => rw [hq121] at h; cases h
            | some v123 =>
              rw [hq121, mjBp_some] at h
              refine pE_callV (k2 := 149) (As := [.int x3, .int 5]) (rest := [.int (x2 + 1), .ref x1]) rfl rfl rfl rfl rfl rfl hk124 (by decide) (by decide) (by decide) (pE_clp (rv := (fun v => some (.int v))) hq121 (fun _ _ h9 => by rw [hk117]; exact f170_act_ok h9)) ?_
              show pE sg 90 199 122 [some (.ref x0), some (.ref x1), some (.int ((x2 + 1) + 1)), some (.int x3)] [.int v123, .int (x2 + 1), .ref x1] Z119 _
              cases hq126 : qSia Z119 x1 (x2 + 1) v123 with
              | none => rw [hq126] at h; cases h
              | some Z125 =>
                rw [hq126, mjBp_some] at h
                refine pE_ias rfl (by decide) hq126 ?_
                refine pE_many 2 (pc1 := 93) (L1 := [some (.ref x0), some (.ref x1), some (.int ((x2 + 1) + 1)), some (.int (x3 + 1))]) (st1 := []) rfl ?_
                exact g199_all_h93_ok n x0 x1 ((x2 + 1) + 1) (x3 + 1) Z125 v9 Z9 h
noncomputable def g199_all_h33 (sg : Nat → Nat) : Nat → Nat → Nat → Int32 → Int32 → mjQ → Option (Nat × mjQ)
  | 0, _, _, _, _, _ => none
  | n + 1, x0, x1, x2, x3, Z =>
    if mjCmp .ge x3 6 = true then
      g199_all_h93 sg mjF x0 x1 x2 0 Z
    else
      if x0 = 0 then
      if mjRo Z.2 x0 11 = true then
      mjBp (qClp (fun Zc => f180_rank x3 Zc) Z) fun v129 =>
      mjBp (qSia Z x1 x2 v129) fun Z132 =>
      if mjRo Z132.2 x0 11 = true then
      mjBp (qClp (fun Zc => f183_would x3 Zc) Z132) fun v136 =>
      mjBp (qSia Z132 x1 (x2 + 1) v136) fun Z138 =>
      if mjRo Z138.2 x0 11 = true then
      mjBp (qClp (fun Zc => f179_struck x3 2 Zc) Z138) fun v142 =>
      mjBp (qSia Z138 x1 ((x2 + 1) + 1) v142) fun Z144 =>
      if mjRo Z144.2 x0 11 = true then
      mjBp (qClp (fun Zc => f156_team x3 2 Zc) Z144) fun v148 =>
      mjBp (qSia Z144 x1 (((x2 + 1) + 1) + 1) v148) fun Z150 =>
      g199_all_h33 sg n x0 x1 ((((x2 + 1) + 1) + 1) + 1) (x3 + 1) Z150
      else none
      else none
      else none
      else none
      else none
set_option maxRecDepth 100000 in
theorem g199_all_h33_ok {sg : Nat → Nat} : ∀ (n : Nat) (x0 : Nat) (x1 : Nat) (x2 : Int32) (x3 : Int32) (Z : mjQ) (v9 : Nat) (Z9 : mjQ), g199_all_h33 sg n x0 x1 x2 x3 Z = some (v9, Z9) → pE sg 90 199 33 [some (.ref x0), some (.ref x1), some (.int x2), some (.int x3)] [] Z (fun r M1 => r = some (.ref v9) ∧ M1 = Z9)
  | 0, x0, x1, x2, x3, Z, v9, Z9, h => by rw [g199_all_h33] at h; cases h
  | n + 1, x0, x1, x2, x3, Z, v9, Z9, h => by
      rw [g199_all_h33] at h
      refine pE_many 2 (pc1 := 36) (L1 := [some (.ref x0), some (.ref x1), some (.int x2), some (.int x3)]) (st1 := [.int 6, .int x3]) rfl ?_
      by_cases hc105 : mjCmp .ge x3 6 = true
      · rw [if_pos hc105] at h
        refine pE_cmt (t := 91) rfl rfl hc105 ?_
        refine pE_many 2 (pc1 := 93) (L1 := [some (.ref x0), some (.ref x1), some (.int x2), some (.int 0)]) (st1 := []) rfl ?_
        exact g199_all_h93_ok mjF x0 x1 x2 0 Z v9 Z9 h
      · rw [if_neg hc105] at h
        refine pE_cmf (t := 91) rfl rfl hc105 ?_
        refine pE_many 5 (pc1 := 46) (L1 := [some (.ref x0), some (.ref x1), some (.int (x2 + 1)), some (.int x3)]) (st1 := [.int x3, .ref x0, .int x2, .ref x1]) rfl ?_
        have hk130 : x0 = 0 := by
          by_cases q9 : x0 = 0
          · exact q9
          · rw [if_neg q9] at h; cases h
        rw [if_pos hk130] at h
        have hk131 : mjRo Z.2 x0 11 = true := by
          by_cases q9 : mjRo Z.2 x0 11 = true
          · exact q9
          · rw [if_neg q9] at h; cases h
        rw [if_pos hk131] at h
        cases hq127 : qClp (fun Zc => f180_rank x3 Zc) Z with
        | none => rw [hq127] at h; cases h
        | some v129 =>
          rw [hq127, mjBp_some] at h
          refine pE_callV (k2 := 156) (As := [.int x3]) (rest := [.int x2, .ref x1]) rfl rfl rfl rfl rfl rfl hk131 (by decide) (by decide) (by decide) (pE_clp (rv := (fun v => some (.int v))) hq127 (fun _ _ h9 => by rw [hk130]; exact f180_rank_ok h9)) ?_
          show pE sg 90 199 49 [some (.ref x0), some (.ref x1), some (.int (x2 + 1)), some (.int x3)] [.int v129, .int x2, .ref x1] Z _
          cases hq133 : qSia Z x1 x2 v129 with
          | none => rw [hq133] at h; cases h
          | some Z132 =>
            rw [hq133, mjBp_some] at h
            refine pE_ias rfl (by decide) hq133 ?_
            refine pE_many 5 (pc1 := 57) (L1 := [some (.ref x0), some (.ref x1), some (.int ((x2 + 1) + 1)), some (.int x3)]) (st1 := [.int x3, .ref x0, .int (x2 + 1), .ref x1]) rfl ?_
            have hk137 : mjRo Z132.2 x0 11 = true := by
              by_cases q9 : mjRo Z132.2 x0 11 = true
              · exact q9
              · rw [if_neg q9] at h; cases h
            rw [if_pos hk137] at h
            cases hq134 : qClp (fun Zc => f183_would x3 Zc) Z132 with
            | none => rw [hq134] at h; cases h
            | some v136 =>
              rw [hq134, mjBp_some] at h
              refine pE_callV (k2 := 159) (As := [.int x3]) (rest := [.int (x2 + 1), .ref x1]) rfl rfl rfl rfl rfl rfl hk137 (by decide) (by decide) (by decide) (pE_clp (rv := (fun v => some (.int v))) hq134 (fun _ _ h9 => by rw [hk130]; exact f183_would_ok h9)) ?_
              show pE sg 90 199 60 [some (.ref x0), some (.ref x1), some (.int ((x2 + 1) + 1)), some (.int x3)] [.int v136, .int (x2 + 1), .ref x1] Z132 _
              cases hq139 : qSia Z132 x1 (x2 + 1) v136 with
              | none => rw [hq139] at h; cases h
              | some Z138 =>
                rw [hq139, mjBp_some] at h
                refine pE_ias rfl (by decide) hq139 ?_
                refine pE_many 6 (pc1 := 69) (L1 := [some (.ref x0), some (.ref x1), some (.int (((x2 + 1) + 1) + 1)), some (.int x3)]) (st1 := [.int 2, .int x3, .ref x0, .int ((x2 + 1) + 1), .ref x1]) rfl ?_
                have hk143 : mjRo Z138.2 x0 11 = true := by
                  by_cases q9 : mjRo Z138.2 x0 11 = true
                  · exact q9
                  · rw [if_neg q9] at h; cases h
                rw [if_pos hk143] at h
                cases hq140 : qClp (fun Zc => f179_struck x3 2 Zc) Z138 with
                | none => rw [hq140] at h; cases h
                | some v142 =>
                  rw [hq140, mjBp_some] at h
                  refine pE_callV (k2 := 155) (As := [.int x3, .int 2]) (rest := [.int ((x2 + 1) + 1), .ref x1]) rfl rfl rfl rfl rfl rfl hk143 (by decide) (by decide) (by decide) (pE_clp (rv := (fun v => some (.int v))) hq140 (fun _ _ h9 => by rw [hk130]; exact f179_struck_ok h9)) ?_
                  show pE sg 90 199 72 [some (.ref x0), some (.ref x1), some (.int (((x2 + 1) + 1) + 1)), some (.int x3)] [.int v142, .int ((x2 + 1) + 1), .ref x1] Z138 _
                  cases hq145 : qSia Z138 x1 ((x2 + 1) + 1) v142 with
                  | none => rw [hq145] at h; cases h
                  | some Z144 =>
                    rw [hq145, mjBp_some] at h
                    refine pE_ias rfl (by decide) hq145 ?_
                    refine pE_many 6 (pc1 := 81) (L1 := [some (.ref x0), some (.ref x1), some (.int ((((x2 + 1) + 1) + 1) + 1)), some (.int x3)]) (st1 := [.int 2, .int x3, .ref x0, .int (((x2 + 1) + 1) + 1), .ref x1]) rfl ?_
                    have hk149 : mjRo Z144.2 x0 11 = true := by
                      by_cases q9 : mjRo Z144.2 x0 11 = true
                      · exact q9
                      · rw [if_neg q9] at h; cases h
                    rw [if_pos hk149] at h
                    cases hq146 : qClp (fun Zc => f156_team x3 2 Zc) Z144 with
                    | none => rw [hq146] at h; cases h
                    | some v148 =>
                      rw [hq146, mjBp_some] at h
                      refine pE_callV (k2 := 141) (As := [.int x3, .int 2]) (rest := [.int (((x2 + 1) + 1) + 1), .ref x1]) rfl rfl rfl rfl rfl rfl hk149 (by decide) (by decide) (by decide) (pE_clp (rv := (fun v => some (.int v))) hq146 (fun _ _ h9 => by rw [hk130]; exact f156_team_ok h9)) ?_
                      show pE sg 90 199 84 [some (.ref x0), some (.ref x1), some (.int ((((x2 + 1) + 1) + 1) + 1)), some (.int x3)] [.int v148, .int (((x2 + 1) + 1) + 1), .ref x1] Z144 _
                      cases hq151 : qSia Z144 x1 (((x2 + 1) + 1) + 1) v148 with
                      | none => rw [hq151] at h; cases h
                      | some Z150 =>
                        rw [hq151, mjBp_some] at h
                        refine pE_ias rfl (by decide) hq151 ?_
                        refine pE_many 2 (pc1 := 33) (L1 := [some (.ref x0), some (.ref x1), some (.int ((((x2 + 1) + 1) + 1) + 1)), some (.int (x3 + 1))]) (st1 := []) rfl ?_
                        exact g199_all_h33_ok n x0 x1 ((((x2 + 1) + 1) + 1) + 1) (x3 + 1) Z150 v9 Z9 h
noncomputable def g199_all_h9 (sg : Nat → Nat) : Nat → Nat → Nat → Int32 → Int32 → mjQ → Option (Nat × mjQ)
  | 0, _, _, _, _, _ => none
  | n + 1, x0, x1, x2, x3, Z =>
    if mjCmp .ge x3 5 = true then
      g199_all_h33 sg mjF x0 x1 x2 0 Z
    else
      if x0 = 0 then
      if mjRo Z.2 x0 11 = true then
      mjBp (qClp (fun Zc => f182_who x3 Zc) Z) fun v154 =>
      mjBp (qSia Z x1 x2 v154) fun Z157 =>
      g199_all_h9 sg n x0 x1 (x2 + 1) (x3 + 1) Z157
      else none
      else none
set_option maxRecDepth 100000 in
theorem g199_all_h9_ok {sg : Nat → Nat} : ∀ (n : Nat) (x0 : Nat) (x1 : Nat) (x2 : Int32) (x3 : Int32) (Z : mjQ) (v9 : Nat) (Z9 : mjQ), g199_all_h9 sg n x0 x1 x2 x3 Z = some (v9, Z9) → pE sg 90 199 9 [some (.ref x0), some (.ref x1), some (.int x2), some (.int x3)] [] Z (fun r M1 => r = some (.ref v9) ∧ M1 = Z9)
  | 0, x0, x1, x2, x3, Z, v9, Z9, h => by rw [g199_all_h9] at h; cases h
  | n + 1, x0, x1, x2, x3, Z, v9, Z9, h => by
      rw [g199_all_h9] at h
      refine pE_many 2 (pc1 := 11) (L1 := [some (.ref x0), some (.ref x1), some (.int x2), some (.int x3)]) (st1 := [.int 5, .int x3]) rfl ?_
      by_cases hc104 : mjCmp .ge x3 5 = true
      · rw [if_pos hc104] at h
        refine pE_cmt (t := 31) rfl rfl hc104 ?_
        refine pE_many 2 (pc1 := 33) (L1 := [some (.ref x0), some (.ref x1), some (.int x2), some (.int 0)]) (st1 := []) rfl ?_
        exact g199_all_h33_ok mjF x0 x1 x2 0 Z v9 Z9 h
      · rw [if_neg hc104] at h
        refine pE_cmf (t := 31) rfl rfl hc104 ?_
        refine pE_many 5 (pc1 := 21) (L1 := [some (.ref x0), some (.ref x1), some (.int (x2 + 1)), some (.int x3)]) (st1 := [.int x3, .ref x0, .int x2, .ref x1]) rfl ?_
        have hk155 : x0 = 0 := by
          by_cases q9 : x0 = 0
          · exact q9
          · rw [if_neg q9] at h; cases h
        rw [if_pos hk155] at h
        have hk156 : mjRo Z.2 x0 11 = true := by
          by_cases q9 : mjRo Z.2 x0 11 = true
          · exact q9
          · rw [if_neg q9] at h; cases h
        rw [if_pos hk156] at h
        cases hq152 : qClp (fun Zc => f182_who x3 Zc) Z with
        | none => rw [hq152] at h; cases h
        | some v154 =>
          rw [hq152, mjBp_some] at h
          refine pE_callV (k2 := 158) (As := [.int x3]) (rest := [.int x2, .ref x1]) rfl rfl rfl rfl rfl rfl hk156 (by decide) (by decide) (by decide) (pE_clp (rv := (fun v => some (.int v))) hq152 (fun _ _ h9 => by rw [hk155]; exact f182_who_ok h9)) ?_
          show pE sg 90 199 24 [some (.ref x0), some (.ref x1), some (.int (x2 + 1)), some (.int x3)] [.int v154, .int x2, .ref x1] Z _
          cases hq158 : qSia Z x1 x2 v154 with
          | none => rw [hq158] at h; cases h
          | some Z157 =>
            rw [hq158, mjBp_some] at h
            refine pE_ias rfl (by decide) hq158 ?_
            refine pE_many 2 (pc1 := 9) (L1 := [some (.ref x0), some (.ref x1), some (.int (x2 + 1)), some (.int (x3 + 1))]) (st1 := []) rfl ?_
            exact g199_all_h9_ok n x0 x1 (x2 + 1) (x3 + 1) Z157 v9 Z9 h
noncomputable def g199_all (sg : Nat → Nat) (p0 : Nat) (Z : mjQ) : Option (Nat × mjQ) :=
  mjBq (qNewA sg Z 113 54) fun v101 Z103 =>
  g199_all_h9 sg mjF p0 v101 0 0 Z103
set_option maxRecDepth 100000 in
theorem g199_all_ok {sg : Nat → Nat} {p0 : Nat} {Z : mjQ} {v9 : Nat} {Z9 : mjQ} (h : g199_all sg p0 Z = some (v9, Z9)) : pE sg 90 199 0 (mjEnt [.ref p0] (mjML 199)) [] Z (fun r M1 => r = some (.ref v9) ∧ M1 = Z9) := by
  unfold g199_all at h
  show pE sg 90 199 0 [some (.ref p0), none, none, none] [] Z _
  refine pE_many 1 (pc1 := 2) (L1 := [some (.ref p0), none, none, none]) (st1 := [.int 54]) rfl ?_
  cases hq102 : qNewA sg Z 113 54 with
  | none => rw [hq102] at h; cases h
  | some w =>
    obtain ⟨v101, Z103⟩ := w
    rw [hq102, mjBq_some] at h
    refine pE_newA rfl rfl rfl rfl rfl (by decide) hq102 ?_
    refine pE_many 5 (pc1 := 9) (L1 := [some (.ref p0), some (.ref v101), some (.int 0), some (.int 0)]) (st1 := []) rfl ?_
    exact g199_all_h9_ok mjF p0 v101 0 0 Z103 v9 Z9 h
noncomputable def g256_law_h312 (sg : Nat → Nat) : Nat → Nat → Nat → Nat → Int32 → mjQ → Option (Int32 × mjQ)
  | 0, _, _, _, _, _ => none
  | n + 1, x2, x3, x5, x6, Z =>
    mjBp (qLn Z.2 x5) fun v145 =>
    if mjCmp .ge x6 v145 = true then
      if x2 = 0 then
      if mjRo Z.2 x2 11 = true then
      mjBq (qCl (fun Zc => f193_undo  Zc) Z) fun v150 Z149 =>
      if mjCmp .ne v150 ((-1)) = true then
        some (0, Z149)
      else
        if mjRo Z149.2 x2 11 = true then
        mjBq (qCl (fun Zc => f192_measure 0 7 50 0 Zc) Z149) fun v156 Z155 =>
        if mjCmp .ne v156 ((-1)) = true then
          some (0, Z155)
        else
          if mjRo Z155.2 x2 11 = true then
          mjBq (qCl (fun Zc => f190_appeal 0 0 10000 Zc) Z155) fun v161 Z160 =>
          if mjCmp .ne v161 ((-1)) = true then
            some (0, Z160)
          else
            some (1, Z160)
          else none
        else none
      else none
      else none
    else
      mjBp (qIa Z.2 x5 x6) fun v164 =>
      mjBp (qIa Z.2 x3 x6) fun v166 =>
      if mjCmp .eq v164 v166 = true then
        g256_law_h312 sg n x2 x3 x5 (x6 + 1) Z
      else
        some (0, Z)
set_option maxRecDepth 100000 in
theorem g256_law_h312_ok {sg : Nat → Nat} : ∀ (n : Nat) (x2 : Nat) (x3 : Nat) (x5 : Nat) (x6 : Int32) (d0 d1 d4 : Option Value) (Z : mjQ) (v9 : Int32) (Z9 : mjQ), g256_law_h312 sg n x2 x3 x5 x6 Z = some (v9, Z9) → pE sg 200 256 312 [d0, d1, some (.ref x2), some (.ref x3), d4, some (.ref x5), some (.int x6)] [] Z (fun r M1 => r = some (.int v9) ∧ M1 = Z9)
  | 0, x2, x3, x5, x6, d0, d1, d4, Z, v9, Z9, h => by rw [g256_law_h312] at h; cases h
  | n + 1, x2, x3, x5, x6, d0, d1, d4, Z, v9, Z9, h => by
      rw [g256_law_h312] at h
      refine pE_many 2 (pc1 := 316) (L1 := [d0, d1, some (.ref x2), some (.ref x3), d4, some (.ref x5), some (.int x6)]) (st1 := [.ref x5, .int x6]) rfl ?_
      cases hq146 : qLn Z.2 x5 with
      | none => rw [hq146] at h; cases h
      | some v145 =>
        rw [hq146, mjBp_some] at h
        refine pE_len rfl hq146 ?_
        by_cases hc147 : mjCmp .ge x6 v145 = true
        · rw [if_pos hc147] at h
          refine pE_cmt (t := 340) rfl rfl hc147 ?_
          refine pE_many 1 (pc1 := 341) (L1 := [d0, d1, some (.ref x2), some (.ref x3), d4, some (.ref x5), some (.int x6)]) (st1 := [.ref x2]) rfl ?_
          have hk151 : x2 = 0 := by
            by_cases q9 : x2 = 0
            · exact q9
            · rw [if_neg q9] at h; cases h
          rw [if_pos hk151] at h
          have hk152 : mjRo Z.2 x2 11 = true := by
            by_cases q9 : mjRo Z.2 x2 11 = true
            · exact q9
            · rw [if_neg q9] at h; cases h
          rw [if_pos hk152] at h
          cases hq148 : qCl (fun Zc => f193_undo  Zc) Z with
          | none => rw [hq148] at h; cases h
          | some w =>
            obtain ⟨v150, Z149⟩ := w
            rw [hq148, mjBq_some] at h
            refine pE_callV (k2 := 165) (As := []) (rest := []) rfl rfl rfl rfl rfl rfl hk152 (by decide) (by decide) (by decide) (pE_cls (rv := (fun v => some (.int v))) hq148 (fun _ _ _ h9 => by rw [hk151]; exact f193_undo_ok h9)) ?_
            show pE sg 200 256 344 [d0, d1, some (.ref x2), some (.ref x3), d4, some (.ref x5), some (.int x6)] [.int v150] Z149 _
            refine pE_many 1 (pc1 := 345) (L1 := [d0, d1, some (.ref x2), some (.ref x3), d4, some (.ref x5), some (.int x6)]) (st1 := [.int ((-1)), .int v150]) rfl ?_
            by_cases hc153 : mjCmp .ne v150 ((-1)) = true
            · rw [if_pos hc153] at h
              refine pE_cmt (t := 379) rfl rfl hc153 ?_
              refine pE_many 1 (pc1 := 380) (L1 := [d0, d1, some (.ref x2), some (.ref x3), d4, some (.ref x5), some (.int x6)]) (st1 := [.int 0]) rfl ?_
              simp only [Option.some.injEq, Prod.mk.injEq] at h
              obtain ⟨rfl, rfl⟩ := h
              exact pE_ret (r := some (.int 0)) rfl ⟨rfl, rfl⟩
            · rw [if_neg hc153] at h
              refine pE_cmf (t := 379) rfl rfl hc153 ?_
              refine pE_many 5 (pc1 := 355) (L1 := [d0, d1, some (.ref x2), some (.ref x3), d4, some (.ref x5), some (.int x6)]) (st1 := [.int 0, .int 50, .int 7, .int 0, .ref x2]) rfl ?_
              have hk157 : mjRo Z149.2 x2 11 = true := by
                by_cases q9 : mjRo Z149.2 x2 11 = true
                · exact q9
                · rw [if_neg q9] at h; cases h
              rw [if_pos hk157] at h
              cases hq154 : qCl (fun Zc => f192_measure 0 7 50 0 Zc) Z149 with
              | none => rw [hq154] at h; cases h
              | some w =>
                obtain ⟨v156, Z155⟩ := w
                rw [hq154, mjBq_some] at h
                refine pE_callV (k2 := 164) (As := [.int 0, .int 7, .int 50, .int 0]) (rest := []) rfl rfl rfl rfl rfl rfl hk157 (by decide) (by decide) (by decide) (pE_cls (rv := (fun v => some (.int v))) hq154 (fun _ _ _ h9 => by rw [hk151]; exact f192_measure_ok h9)) ?_
                show pE sg 200 256 358 [d0, d1, some (.ref x2), some (.ref x3), d4, some (.ref x5), some (.int x6)] [.int v156] Z155 _
                refine pE_many 1 (pc1 := 359) (L1 := [d0, d1, some (.ref x2), some (.ref x3), d4, some (.ref x5), some (.int x6)]) (st1 := [.int ((-1)), .int v156]) rfl ?_
                by_cases hc158 : mjCmp .ne v156 ((-1)) = true
                · rw [if_pos hc158] at h
                  refine pE_cmt (t := 379) rfl rfl hc158 ?_
                  refine pE_many 1 (pc1 := 380) (L1 := [d0, d1, some (.ref x2), some (.ref x3), d4, some (.ref x5), some (.int x6)]) (st1 := [.int 0]) rfl ?_
                  simp only [Option.some.injEq, Prod.mk.injEq] at h
                  obtain ⟨rfl, rfl⟩ := h
                  exact pE_ret (r := some (.int 0)) rfl ⟨rfl, rfl⟩
                · rw [if_neg hc158] at h
                  refine pE_cmf (t := 379) rfl rfl hc158 ?_
                  refine pE_many 4 (pc1 := 368) (L1 := [d0, d1, some (.ref x2), some (.ref x3), d4, some (.ref x5), some (.int x6)]) (st1 := [.int 10000, .int 0, .int 0, .ref x2]) rfl ?_
                  have hk162 : mjRo Z155.2 x2 11 = true := by
                    by_cases q9 : mjRo Z155.2 x2 11 = true
                    · exact q9
                    · rw [if_neg q9] at h; cases h
                  rw [if_pos hk162] at h
                  cases hq159 : qCl (fun Zc => f190_appeal 0 0 10000 Zc) Z155 with
                  | none => rw [hq159] at h; cases h
                  | some w =>
                    obtain ⟨v161, Z160⟩ := w
                    rw [hq159, mjBq_some] at h
                    refine pE_callV (k2 := 162) (As := [.int 0, .int 0, .int 10000]) (rest := []) rfl rfl rfl rfl rfl rfl hk162 (by decide) (by decide) (by decide) (pE_cls (rv := (fun v => some (.int v))) hq159 (fun _ _ _ h9 => by rw [hk151]; exact f190_appeal_ok h9)) ?_
                    show pE sg 200 256 371 [d0, d1, some (.ref x2), some (.ref x3), d4, some (.ref x5), some (.int x6)] [.int v161] Z160 _
                    refine pE_many 1 (pc1 := 372) (L1 := [d0, d1, some (.ref x2), some (.ref x3), d4, some (.ref x5), some (.int x6)]) (st1 := [.int ((-1)), .int v161]) rfl ?_
                    by_cases hc163 : mjCmp .ne v161 ((-1)) = true
                    · rw [if_pos hc163] at h
                      refine pE_cmt (t := 379) rfl rfl hc163 ?_
                      refine pE_many 1 (pc1 := 380) (L1 := [d0, d1, some (.ref x2), some (.ref x3), d4, some (.ref x5), some (.int x6)]) (st1 := [.int 0]) rfl ?_
                      simp only [Option.some.injEq, Prod.mk.injEq] at h
                      obtain ⟨rfl, rfl⟩ := h
                      exact pE_ret (r := some (.int 0)) rfl ⟨rfl, rfl⟩
                    · rw [if_neg hc163] at h
                      refine pE_cmf (t := 379) rfl rfl hc163 ?_
                      refine pE_many 2 (pc1 := 380) (L1 := [d0, d1, some (.ref x2), some (.ref x3), d4, some (.ref x5), some (.int x6)]) (st1 := [.int 1]) rfl ?_
                      simp only [Option.some.injEq, Prod.mk.injEq] at h
                      obtain ⟨rfl, rfl⟩ := h
                      exact pE_ret (r := some (.int 1)) rfl ⟨rfl, rfl⟩
        · rw [if_neg hc147] at h
          refine pE_cmf (t := 340) rfl rfl hc147 ?_
          refine pE_many 2 (pc1 := 324) (L1 := [d0, d1, some (.ref x2), some (.ref x3), d4, some (.ref x5), some (.int x6)]) (st1 := [.int x6, .ref x5]) rfl ?_
          cases hq165 : qIa Z.2 x5 x6 with
          | none => rw [hq165] at h; cases h
          | some v164 =>
            rw [hq165, mjBp_some] at h
            refine pE_ial rfl hq165 ?_
            refine pE_many 2 (pc1 := 328) (L1 := [d0, d1, some (.ref x2), some (.ref x3), d4, some (.ref x5), some (.int x6)]) (st1 := [.int x6, .ref x3, .int v164]) rfl ?_
            cases hq167 : qIa Z.2 x3 x6 with
            | none => rw [hq167] at h; cases h
            | some v166 =>
              rw [hq167, mjBp_some] at h
              refine pE_ial rfl hq167 ?_
              by_cases hc168 : mjCmp .eq v164 v166 = true
              · rw [if_pos hc168] at h
                refine pE_cmt (t := 334) rfl rfl hc168 ?_
                refine pE_many 2 (pc1 := 312) (L1 := [d0, d1, some (.ref x2), some (.ref x3), d4, some (.ref x5), some (.int (x6 + 1))]) (st1 := []) rfl ?_
                exact g256_law_h312_ok n x2 x3 x5 (x6 + 1) d0 d1 d4 Z v9 Z9 h
              · rw [if_neg hc168] at h
                refine pE_cmf (t := 334) rfl rfl hc168 ?_
                refine pE_many 1 (pc1 := 333) (L1 := [d0, d1, some (.ref x2), some (.ref x3), d4, some (.ref x5), some (.int x6)]) (st1 := [.int 0]) rfl ?_
                simp only [Option.some.injEq, Prod.mk.injEq] at h
                obtain ⟨rfl, rfl⟩ := h
                exact pE_ret (r := some (.int 0)) rfl ⟨rfl, rfl⟩
noncomputable def g256_law_h281 (sg : Nat → Nat) : Nat → Nat → Nat → Int32 → mjQ → Option (Int32 × mjQ)
  | 0, _, _, _, _ => none
  | n + 1, x2, x3, x5, Z =>
    if mjCmp .lt x5 0 = true then
      mjBq (g199_all sg x2 Z) fun v143 Z144 =>
      g256_law_h312 sg mjF x2 x3 v143 0 Z144
    else
      if x2 = 0 then
      if mjRo Z.2 x2 11 = true then
      mjBq (qCl (fun Zc => f193_undo  Zc) Z) fun v171 Z170 =>
      if mjCmp .eq v171 x5 = true then
        g256_law_h281 sg n x2 x3 (x5 + (-1)) Z170
      else
        some (0, Z170)
      else none
      else none
set_option maxRecDepth 100000 in
theorem g256_law_h281_ok {sg : Nat → Nat} : ∀ (n : Nat) (x2 : Nat) (x3 : Nat) (x5 : Int32) (d0 d1 d4 d6 : Option Value) (Z : mjQ) (v9 : Int32) (Z9 : mjQ), g256_law_h281 sg n x2 x3 x5 Z = some (v9, Z9) → pE sg 200 256 281 [d0, d1, some (.ref x2), some (.ref x3), d4, some (.int x5), d6] [] Z (fun r M1 => r = some (.int v9) ∧ M1 = Z9)
  | 0, x2, x3, x5, d0, d1, d4, d6, Z, v9, Z9, h => by rw [g256_law_h281] at h; cases h
  | n + 1, x2, x3, x5, d0, d1, d4, d6, Z, v9, Z9, h => by
      rw [g256_law_h281] at h
      refine pE_many 1 (pc1 := 283) (L1 := [d0, d1, some (.ref x2), some (.ref x3), d4, some (.int x5), d6]) (st1 := [.int x5]) rfl ?_
      by_cases hc141 : mjCmp .lt x5 0 = true
      · rw [if_pos hc141] at h
        refine pE_ift (t := 303) rfl rfl hc141 ?_
        refine pE_many 1 (pc1 := 304) (L1 := [d0, d1, some (.ref x2), some (.ref x3), d4, some (.int x5), d6]) (st1 := [.ref x2]) rfl ?_
        cases hq142 : g199_all sg x2 Z with
        | none => rw [hq142] at h; cases h
        | some w =>
          obtain ⟨v143, Z144⟩ := w
          rw [hq142, mjBq_some] at h
          refine pE_call (k2 := 199) (As := [.ref x2]) (rest := []) (w := 3) rfl (by decide) (by decide) (g199_all_ok hq142) ?_
          show pE sg 200 256 307 [d0, d1, some (.ref x2), some (.ref x3), d4, some (.int x5), d6] [.ref v143] Z144 _
          refine pE_many 3 (pc1 := 312) (L1 := [d0, d1, some (.ref x2), some (.ref x3), (mjK1 d4), some (.ref v143), some (.int 0)]) (st1 := []) rfl ?_
          exact g256_law_h312_ok mjF x2 x3 v143 0 d0 d1 ((mjK1 d4)) Z144 v9 Z9 h
      · rw [if_neg hc141] at h
        refine pE_iff (t := 303) rfl rfl hc141 ?_
        refine pE_many 1 (pc1 := 287) (L1 := [d0, d1, some (.ref x2), some (.ref x3), d4, some (.int x5), d6]) (st1 := [.ref x2]) rfl ?_
        have hk172 : x2 = 0 := by
          by_cases q9 : x2 = 0
          · exact q9
          · rw [if_neg q9] at h; cases h
        rw [if_pos hk172] at h
        have hk173 : mjRo Z.2 x2 11 = true := by
          by_cases q9 : mjRo Z.2 x2 11 = true
          · exact q9
          · rw [if_neg q9] at h; cases h
        rw [if_pos hk173] at h
        cases hq169 : qCl (fun Zc => f193_undo  Zc) Z with
        | none => rw [hq169] at h; cases h
        | some w =>
          obtain ⟨v171, Z170⟩ := w
          rw [hq169, mjBq_some] at h
          refine pE_callV (k2 := 165) (As := []) (rest := []) rfl rfl rfl rfl rfl rfl hk173 (by decide) (by decide) (by decide) (pE_cls (rv := (fun v => some (.int v))) hq169 (fun _ _ _ h9 => by rw [hk172]; exact f193_undo_ok h9)) ?_
          show pE sg 200 256 290 [d0, d1, some (.ref x2), some (.ref x3), d4, some (.int x5), d6] [.int v171] Z170 _
          refine pE_many 1 (pc1 := 292) (L1 := [d0, d1, some (.ref x2), some (.ref x3), d4, some (.int x5), d6]) (st1 := [.int x5, .int v171]) rfl ?_
          by_cases hc174 : mjCmp .eq v171 x5 = true
          · rw [if_pos hc174] at h
            refine pE_cmt (t := 297) rfl rfl hc174 ?_
            refine pE_many 2 (pc1 := 281) (L1 := [d0, d1, some (.ref x2), some (.ref x3), (mjK1 d4), some (.int (x5 + (-1))), d6]) (st1 := []) rfl ?_
            exact g256_law_h281_ok n x2 x3 (x5 + (-1)) d0 d1 ((mjK1 d4)) d6 Z170 v9 Z9 h
          · rw [if_neg hc174] at h
            refine pE_cmf (t := 297) rfl rfl hc174 ?_
            refine pE_many 1 (pc1 := 296) (L1 := [d0, d1, some (.ref x2), some (.ref x3), d4, some (.int x5), d6]) (st1 := [.int 0]) rfl ?_
            simp only [Option.some.injEq, Prod.mk.injEq] at h
            obtain ⟨rfl, rfl⟩ := h
            exact pE_ret (r := some (.int 0)) rfl ⟨rfl, rfl⟩
noncomputable def g256_law_j253 (sg : Nat → Nat) (R : Nat → Nat → Nat → Nat → Int32 → Int32 → mjQ → Option (Int32 × mjQ)) (x0 : Nat) (x1 : Nat) (x2 : Nat) (x3 : Nat) (x5 : Int32) (s0 : Int32) (s1 : Int32) (Z : mjQ) : Option (Int32 × mjQ) :=
  if x2 = 0 then
  if mjRo Z.2 x2 11 = true then
  mjBp (qClp (fun Zc => f154_about 11 Zc) Z) fun v199 =>
  if mjCmp .eq v199 (s0 + s1) = true then
    R x0 x1 x2 x3 (s0 + s1) (x5 + 1) Z
  else
    some (0, Z)
  else none
  else none
set_option maxRecDepth 100000 in
theorem g256_law_j253_ok {sg : Nat → Nat} (R : Nat → Nat → Nat → Nat → Int32 → Int32 → mjQ → Option (Int32 × mjQ)) (hR : ∀ (x0 : Nat) (x1 : Nat) (x2 : Nat) (x3 : Nat) (x4 : Int32) (x5 : Int32) (d6 : Option Value) (Z : mjQ) (v9 : Int32) (Z9 : mjQ), R x0 x1 x2 x3 x4 x5 Z = some (v9, Z9) → pE sg 200 256 69 [some (.ref x0), some (.ref x1), some (.ref x2), some (.ref x3), some (.int x4), some (.int x5), d6] [] Z (fun r M1 => r = some (.int v9) ∧ M1 = Z9)) (x0 : Nat) (x1 : Nat) (x2 : Nat) (x3 : Nat) (x5 : Int32) (s0 : Int32) (s1 : Int32) (d4 d6 : Option Value) (Z : mjQ) (v9 : Int32) (Z9 : mjQ) (h : g256_law_j253 sg R x0 x1 x2 x3 x5 s0 s1 Z = some (v9, Z9)) : pE sg 200 256 253 [some (.ref x0), some (.ref x1), some (.ref x2), some (.ref x3), d4, some (.int x5), d6] [.int s1, .int s0] Z (fun r M1 => r = some (.int v9) ∧ M1 = Z9) := by
  unfold g256_law_j253 at h
  refine pE_many 4 (pc1 := 259) (L1 := [some (.ref x0), some (.ref x1), some (.ref x2), some (.ref x3), some (.int (s0 + s1)), some (.int x5), d6]) (st1 := [.int 11, .ref x2]) rfl ?_
  have hk200 : x2 = 0 := by
    by_cases q9 : x2 = 0
    · exact q9
    · rw [if_neg q9] at h; cases h
  rw [if_pos hk200] at h
  have hk201 : mjRo Z.2 x2 11 = true := by
    by_cases q9 : mjRo Z.2 x2 11 = true
    · exact q9
    · rw [if_neg q9] at h; cases h
  rw [if_pos hk201] at h
  cases hq197 : qClp (fun Zc => f154_about 11 Zc) Z with
  | none => rw [hq197] at h; cases h
  | some v199 =>
    rw [hq197, mjBp_some] at h
    refine pE_callV (k2 := 140) (As := [.int 11]) (rest := []) rfl rfl rfl rfl rfl rfl hk201 (by decide) (by decide) (by decide) (pE_clp (rv := (fun v => some (.int v))) hq197 (fun _ _ h9 => by rw [hk200]; exact f154_about_ok h9)) ?_
    show pE sg 200 256 262 [some (.ref x0), some (.ref x1), some (.ref x2), some (.ref x3), some (.int (s0 + s1)), some (.int x5), d6] [.int v199] Z _
    refine pE_many 1 (pc1 := 264) (L1 := [some (.ref x0), some (.ref x1), some (.ref x2), some (.ref x3), some (.int (s0 + s1)), some (.int x5), d6]) (st1 := [.int (s0 + s1), .int v199]) rfl ?_
    by_cases hc202 : mjCmp .eq v199 (s0 + s1) = true
    · rw [if_pos hc202] at h
      refine pE_cmt (t := 269) rfl rfl hc202 ?_
      refine pE_many 2 (pc1 := 69) (L1 := [some (.ref x0), some (.ref x1), some (.ref x2), some (.ref x3), some (.int (s0 + s1)), some (.int (x5 + 1)), d6]) (st1 := []) rfl ?_
      exact hR x0 x1 x2 x3 (s0 + s1) (x5 + 1) d6 Z v9 Z9 h
    · rw [if_neg hc202] at h
      refine pE_cmf (t := 269) rfl rfl hc202 ?_
      refine pE_many 1 (pc1 := 268) (L1 := [some (.ref x0), some (.ref x1), some (.ref x2), some (.ref x3), some (.int (s0 + s1)), some (.int x5), d6]) (st1 := [.int 0]) rfl ?_
      simp only [Option.some.injEq, Prod.mk.injEq] at h
      obtain ⟨rfl, rfl⟩ := h
      exact pE_ret (r := some (.int 0)) rfl ⟨rfl, rfl⟩
noncomputable def g256_law_j241 (sg : Nat → Nat) (R : Nat → Nat → Nat → Nat → Int32 → Int32 → mjQ → Option (Int32 × mjQ)) (x0 : Nat) (x1 : Nat) (x2 : Nat) (x3 : Nat) (x4 : Int32) (x5 : Int32) (x6 : Int32) (Z : mjQ) : Option (Int32 × mjQ) :=
  if mjCmp .ge x6 0 = true then
    g256_law_j253 sg R x0 x1 x2 x3 x5 x4 1 Z
  else
    g256_law_j253 sg R x0 x1 x2 x3 x5 x4 0 Z
set_option maxRecDepth 100000 in
theorem g256_law_j241_ok {sg : Nat → Nat} (R : Nat → Nat → Nat → Nat → Int32 → Int32 → mjQ → Option (Int32 × mjQ)) (hR : ∀ (x0 : Nat) (x1 : Nat) (x2 : Nat) (x3 : Nat) (x4 : Int32) (x5 : Int32) (d6 : Option Value) (Z : mjQ) (v9 : Int32) (Z9 : mjQ), R x0 x1 x2 x3 x4 x5 Z = some (v9, Z9) → pE sg 200 256 69 [some (.ref x0), some (.ref x1), some (.ref x2), some (.ref x3), some (.int x4), some (.int x5), d6] [] Z (fun r M1 => r = some (.int v9) ∧ M1 = Z9)) (x0 : Nat) (x1 : Nat) (x2 : Nat) (x3 : Nat) (x4 : Int32) (x5 : Int32) (x6 : Int32) (Z : mjQ) (v9 : Int32) (Z9 : mjQ) (h : g256_law_j241 sg R x0 x1 x2 x3 x4 x5 x6 Z = some (v9, Z9)) : pE sg 200 256 241 [some (.ref x0), some (.ref x1), some (.ref x2), some (.ref x3), some (.int x4), some (.int x5), some (.int x6)] [] Z (fun r M1 => r = some (.int v9) ∧ M1 = Z9) := by
  unfold g256_law_j241 at h
  refine pE_many 2 (pc1 := 245) (L1 := [some (.ref x0), some (.ref x1), some (.ref x2), some (.ref x3), some (.int x4), some (.int x5), some (.int x6)]) (st1 := [.int x6, .int x4]) rfl ?_
  by_cases hc196 : mjCmp .ge x6 0 = true
  · rw [if_pos hc196] at h
    refine pE_ift (t := 252) rfl rfl hc196 ?_
    refine pE_many 1 (pc1 := 253) (L1 := [some (.ref x0), some (.ref x1), some (.ref x2), some (.ref x3), some (.int x4), some (.int x5), some (.int x6)]) (st1 := [.int 1, .int x4]) rfl ?_
    exact g256_law_j253_ok R hR x0 x1 x2 x3 x5 x4 1 (some (.int x4)) (some (.int x6)) Z v9 Z9 h
  · rw [if_neg hc196] at h
    refine pE_iff (t := 252) rfl rfl hc196 ?_
    refine pE_many 2 (pc1 := 253) (L1 := [some (.ref x0), some (.ref x1), some (.ref x2), some (.ref x3), some (.int x4), some (.int x5), some (.int x6)]) (st1 := [.int 0, .int x4]) rfl ?_
    exact g256_law_j253_ok R hR x0 x1 x2 x3 x5 x4 0 (some (.int x4)) (some (.int x6)) Z v9 Z9 h
noncomputable def g256_law_h69 (sg : Nat → Nat) : Nat → Nat → Nat → Nat → Nat → Int32 → Int32 → mjQ → Option (Int32 × mjQ)
  | 0, _, _, _, _, _, _, _ => none
  | n + 1, x0, x1, x2, x3, x4, x5, Z =>
    if mjCmp .ge x5 6 = true then
      g256_law_h281 sg mjF x2 x3 (x4 - 1) Z
    else
      if x2 = 0 then
      if x0 = 2000000 then
      mjBp (qClp (fun Zc => f700_runs (600 + (10 * x5)) Zc) Z) fun v177 =>
      if mjCmp .eq v177 0 = true then
        some (0, Z)
      else
        mjBq (qCl (fun Zc => f701_judged  Zc) Z) fun v183 Z182 =>
        if mjCmp .ne v183 0 = true then
          mjBp (g185_pick x0 (660 + x5) 3 Z182) fun v186 =>
          if v186 = 0 then
            mjBp (g185_pick x0 (670 + x5) 4 Z182) fun v190 =>
            if mjRo Z182.2 x2 11 = true then
            mjBq (qCl (fun Zc => f191_waive v190 Zc) Z182) fun v194 Z193 =>
            g256_law_j241 sg (g256_law_h69 sg n) x0 x1 x2 x3 x4 x5 v194 Z193
            else none
          else if v186 = 1 then
            mjBp (g185_pick x0 (670 + x5) 4 Z182) fun v205 =>
            mjBp (g185_pick x0 (680 + x5) 2 Z182) fun v208 =>
            mjBp (g185_pick x0 (690 + x5) 90 Z182) fun v211 =>
            if mjRo Z182.2 x2 11 = true then
            mjBq (qCl (fun Zc => f190_appeal v205 v208 v211 Zc) Z182) fun v215 Z214 =>
            g256_law_j241 sg (g256_law_h69 sg n) x0 x1 x2 x3 x4 x5 v215 Z214
            else none
          else
            if mjRo Z182.2 x1 16 = true then
            mjBp (g196_teams x1 Z182) fun v219 =>
            mjBp (g185_pick x0 (670 + x5) v219 Z182) fun v222 =>
            mjBp (g185_pick x0 (690 + x5) 200 Z182) fun v225 =>
            if mjRo Z182.2 x2 11 = true then
            mjBq (qCl (fun Zc => f192_measure v222 1 (30 + v225) 0 Zc) Z182) fun v229 Z228 =>
            g256_law_j241 sg (g256_law_h69 sg n) x0 x1 x2 x3 x4 x5 v229 Z228
            else none
            else none
        else
          some (0, Z182)
      else none
      else none
set_option maxRecDepth 100000 in
theorem g256_law_h69_ok {sg : Nat → Nat} : ∀ (n : Nat) (x0 : Nat) (x1 : Nat) (x2 : Nat) (x3 : Nat) (x4 : Int32) (x5 : Int32) (d6 : Option Value) (Z : mjQ) (v9 : Int32) (Z9 : mjQ), g256_law_h69 sg n x0 x1 x2 x3 x4 x5 Z = some (v9, Z9) → pE sg 200 256 69 [some (.ref x0), some (.ref x1), some (.ref x2), some (.ref x3), some (.int x4), some (.int x5), d6] [] Z (fun r M1 => r = some (.int v9) ∧ M1 = Z9)
  | 0, x0, x1, x2, x3, x4, x5, d6, Z, v9, Z9, h => by rw [g256_law_h69] at h; cases h
  | n + 1, x0, x1, x2, x3, x4, x5, d6, Z, v9, Z9, h => by
      rw [g256_law_h69] at h
      refine pE_many 2 (pc1 := 73) (L1 := [some (.ref x0), some (.ref x1), some (.ref x2), some (.ref x3), some (.int x4), some (.int x5), d6]) (st1 := [.int 6, .int x5]) rfl ?_
      by_cases hc140 : mjCmp .ge x5 6 = true
      · rw [if_pos hc140] at h
        refine pE_cmt (t := 275) rfl rfl hc140 ?_
        refine pE_many 4 (pc1 := 281) (L1 := [some (.ref x0), some (.ref x1), some (.ref x2), some (.ref x3), some (.int x4), some (.int (x4 - 1)), d6]) (st1 := []) rfl ?_
        exact g256_law_h281_ok mjF x2 x3 (x4 - 1) (some (.ref x0)) (some (.ref x1)) (some (.int x4)) d6 Z v9 Z9 h
      · rw [if_neg hc140] at h
        refine pE_cmf (t := 275) rfl rfl hc140 ?_
        refine pE_many 7 (pc1 := 87) (L1 := [some (.ref x0), some (.ref x1), some (.ref x2), some (.ref x3), some (.int x4), some (.int x5), d6]) (st1 := [.int (600 + (10 * x5)), .ref x0, .ref x2]) rfl ?_
        have hk178 : x2 = 0 := by
          by_cases q9 : x2 = 0
          · exact q9
          · rw [if_neg q9] at h; cases h
        rw [if_pos hk178] at h
        have hk179 : x0 = 2000000 := by
          by_cases q9 : x0 = 2000000
          · exact q9
          · rw [if_neg q9] at h; cases h
        rw [if_pos hk179] at h
        cases hq175 : qClp (fun Zc => f700_runs (600 + (10 * x5)) Zc) Z with
        | none => rw [hq175] at h; cases h
        | some v177 =>
          rw [hq175, mjBp_some] at h
          refine pE_call (k2 := 200) (As := [.ref x2, .ref x0, .int (600 + (10 * x5))]) (rest := []) (w := 3) rfl (by decide) (by decide) (pE_clp (rv := (fun v => some (.int v))) hq175 (fun _ _ h9 => by rw [hk178, hk179]; exact f700_runs_ok h9)) ?_
          show pE sg 200 256 90 [some (.ref x0), some (.ref x1), some (.ref x2), some (.ref x3), some (.int x4), some (.int x5), d6] [.int v177] Z _
          by_cases hc180 : mjCmp .eq v177 0 = true
          · rw [if_pos hc180] at h
            refine pE_ift (t := 100) rfl rfl hc180 ?_
            refine pE_many 1 (pc1 := 101) (L1 := [some (.ref x0), some (.ref x1), some (.ref x2), some (.ref x3), some (.int x4), some (.int x5), d6]) (st1 := [.int 0]) rfl ?_
            simp only [Option.some.injEq, Prod.mk.injEq] at h
            obtain ⟨rfl, rfl⟩ := h
            exact pE_ret (r := some (.int 0)) rfl ⟨rfl, rfl⟩
          · rw [if_neg hc180] at h
            refine pE_iff (t := 100) rfl rfl hc180 ?_
            refine pE_many 1 (pc1 := 94) (L1 := [some (.ref x0), some (.ref x1), some (.ref x2), some (.ref x3), some (.int x4), some (.int x5), d6]) (st1 := [.ref x2]) rfl ?_
            cases hq181 : qCl (fun Zc => f701_judged  Zc) Z with
            | none => rw [hq181] at h; cases h
            | some w =>
              obtain ⟨v183, Z182⟩ := w
              rw [hq181, mjBq_some] at h
              refine pE_call (k2 := 201) (As := [.ref x2]) (rest := []) (w := 3) rfl (by decide) (by decide) (pE_cls (rv := (fun v => some (.int v))) hq181 (fun _ _ _ h9 => by rw [hk178]; exact f701_judged_ok h9)) ?_
              show pE sg 200 256 97 [some (.ref x0), some (.ref x1), some (.ref x2), some (.ref x3), some (.int x4), some (.int x5), d6] [.int v183] Z182 _
              by_cases hc184 : mjCmp .ne v183 0 = true
              · rw [if_pos hc184] at h
                refine pE_ift (t := 102) rfl rfl hc184 ?_
                refine pE_many 5 (pc1 := 110) (L1 := [some (.ref x0), some (.ref x1), some (.ref x2), some (.ref x3), some (.int x4), some (.int x5), d6]) (st1 := [.int 3, .int (660 + x5), .ref x0]) rfl ?_
                cases hq185 : g185_pick x0 (660 + x5) 3 Z182 with
                | none => rw [hq185] at h; cases h
                | some v186 =>
                  rw [hq185, mjBp_some] at h
                  refine pE_call (k2 := 185) (As := [.ref x0, .int (660 + x5), .int 3]) (rest := []) (w := 3) rfl (by decide) (by decide) (g185_pick_ok hq185) ?_
                  show pE sg 200 256 113 [some (.ref x0), some (.ref x1), some (.ref x2), some (.ref x3), some (.int x4), some (.int x5), d6] [.int v186] Z182 _
                  by_cases hs188 : v186 = 0
                  · rw [if_pos hs188] at h
                    refine pE_lsi (t := 140) (o := 27) rfl rfl (by show Op.lookupswitch.offset [(0, 27), (1, 47)] 90 (v186).toInt = 27; rw [hs188]; rfl) rfl ?_
                    refine pE_many 6 (pc1 := 149) (L1 := [some (.ref x0), some (.ref x1), some (.ref x2), some (.ref x3), some (.int x4), some (.int x5), d6]) (st1 := [.int 4, .int (670 + x5), .ref x0, .ref x2]) rfl ?_
                    cases hq189 : g185_pick x0 (670 + x5) 4 Z182 with
                    | none => rw [hq189] at h; cases h
                    | some v190 =>
                      rw [hq189, mjBp_some] at h
                      refine pE_call (k2 := 185) (As := [.ref x0, .int (670 + x5), .int 4]) (rest := [.ref x2]) (w := 3) rfl (by decide) (by decide) (g185_pick_ok hq189) ?_
                      show pE sg 200 256 152 [some (.ref x0), some (.ref x1), some (.ref x2), some (.ref x3), some (.int x4), some (.int x5), d6] [.int v190, .ref x2] Z182 _
                      have hk195 : mjRo Z182.2 x2 11 = true := by
                        by_cases q9 : mjRo Z182.2 x2 11 = true
                        · exact q9
                        · rw [if_neg q9] at h; cases h
                      rw [if_pos hk195] at h
                      cases hq192 : qCl (fun Zc => f191_waive v190 Zc) Z182 with
                      | none => rw [hq192] at h; cases h
                      | some w =>
                        obtain ⟨v194, Z193⟩ := w
                        rw [hq192, mjBq_some] at h
                        refine pE_callV (k2 := 163) (As := [.int v190]) (rest := []) rfl rfl rfl rfl rfl rfl hk195 (by decide) (by decide) (by decide) (pE_cls (rv := (fun v => some (.int v))) hq192 (fun _ _ _ h9 => by rw [hk178]; exact f191_waive_ok h9)) ?_
                        show pE sg 200 256 155 [some (.ref x0), some (.ref x1), some (.ref x2), some (.ref x3), some (.int x4), some (.int x5), d6] [.int v194] Z193 _
                        refine pE_many 2 (pc1 := 241) (L1 := [some (.ref x0), some (.ref x1), some (.ref x2), some (.ref x3), some (.int x4), some (.int x5), some (.int v194)]) (st1 := []) rfl ?_
                        exact g256_law_j241_ok (g256_law_h69 sg n) (fun x0 x1 x2 x3 x4 x5 d6 Z v9 Z9 h => g256_law_h69_ok n x0 x1 x2 x3 x4 x5 d6 Z v9 Z9 h) x0 x1 x2 x3 x4 x5 v194 Z193 v9 Z9 h
                  rw [if_neg hs188] at h
                  by_cases hs203 : v186 = 1
                  · rw [if_pos hs203] at h
                    refine pE_lsi (t := 160) (o := 47) rfl rfl (by show Op.lookupswitch.offset [(0, 27), (1, 47)] 90 (v186).toInt = 47; rw [lv_osw (a := 0) hs188 rfl]; rw [hs203]; rfl) rfl ?_
                    refine pE_many 6 (pc1 := 169) (L1 := [some (.ref x0), some (.ref x1), some (.ref x2), some (.ref x3), some (.int x4), some (.int x5), d6]) (st1 := [.int 4, .int (670 + x5), .ref x0, .ref x2]) rfl ?_
                    cases hq204 : g185_pick x0 (670 + x5) 4 Z182 with
                    | none => rw [hq204] at h; cases h
                    | some v205 =>
                      rw [hq204, mjBp_some] at h
                      refine pE_call (k2 := 185) (As := [.ref x0, .int (670 + x5), .int 4]) (rest := [.ref x2]) (w := 3) rfl (by decide) (by decide) (g185_pick_ok hq204) ?_
                      show pE sg 200 256 172 [some (.ref x0), some (.ref x1), some (.ref x2), some (.ref x3), some (.int x4), some (.int x5), d6] [.int v205, .ref x2] Z182 _
                      refine pE_many 5 (pc1 := 180) (L1 := [some (.ref x0), some (.ref x1), some (.ref x2), some (.ref x3), some (.int x4), some (.int x5), d6]) (st1 := [.int 2, .int (680 + x5), .ref x0, .int v205, .ref x2]) rfl ?_
                      cases hq207 : g185_pick x0 (680 + x5) 2 Z182 with
                      | none => rw [hq207] at h; cases h
                      | some v208 =>
                        rw [hq207, mjBp_some] at h
                        refine pE_call (k2 := 185) (As := [.ref x0, .int (680 + x5), .int 2]) (rest := [.int v205, .ref x2]) (w := 3) rfl (by decide) (by decide) (g185_pick_ok hq207) ?_
                        show pE sg 200 256 183 [some (.ref x0), some (.ref x1), some (.ref x2), some (.ref x3), some (.int x4), some (.int x5), d6] [.int v208, .int v205, .ref x2] Z182 _
                        refine pE_many 5 (pc1 := 192) (L1 := [some (.ref x0), some (.ref x1), some (.ref x2), some (.ref x3), some (.int x4), some (.int x5), d6]) (st1 := [.int 90, .int (690 + x5), .ref x0, .int v208, .int v205, .ref x2]) rfl ?_
                        cases hq210 : g185_pick x0 (690 + x5) 90 Z182 with
                        | none => rw [hq210] at h; cases h
                        | some v211 =>
                          rw [hq210, mjBp_some] at h
                          refine pE_call (k2 := 185) (As := [.ref x0, .int (690 + x5), .int 90]) (rest := [.int v208, .int v205, .ref x2]) (w := 3) rfl (by decide) (by decide) (g185_pick_ok hq210) ?_
                          show pE sg 200 256 195 [some (.ref x0), some (.ref x1), some (.ref x2), some (.ref x3), some (.int x4), some (.int x5), d6] [.int v211, .int v208, .int v205, .ref x2] Z182 _
                          have hk216 : mjRo Z182.2 x2 11 = true := by
                            by_cases q9 : mjRo Z182.2 x2 11 = true
                            · exact q9
                            · rw [if_neg q9] at h; cases h
                          rw [if_pos hk216] at h
                          cases hq213 : qCl (fun Zc => f190_appeal v205 v208 v211 Zc) Z182 with
                          | none => rw [hq213] at h; cases h
                          | some w =>
                            obtain ⟨v215, Z214⟩ := w
                            rw [hq213, mjBq_some] at h
                            refine pE_callV (k2 := 162) (As := [.int v205, .int v208, .int v211]) (rest := []) rfl rfl rfl rfl rfl rfl hk216 (by decide) (by decide) (by decide) (pE_cls (rv := (fun v => some (.int v))) hq213 (fun _ _ _ h9 => by rw [hk178]; exact f190_appeal_ok h9)) ?_
                            show pE sg 200 256 198 [some (.ref x0), some (.ref x1), some (.ref x2), some (.ref x3), some (.int x4), some (.int x5), d6] [.int v215] Z214 _
                            refine pE_many 2 (pc1 := 241) (L1 := [some (.ref x0), some (.ref x1), some (.ref x2), some (.ref x3), some (.int x4), some (.int x5), some (.int v215)]) (st1 := []) rfl ?_
                            exact g256_law_j241_ok (g256_law_h69 sg n) (fun x0 x1 x2 x3 x4 x5 d6 Z v9 Z9 h => g256_law_h69_ok n x0 x1 x2 x3 x4 x5 d6 Z v9 Z9 h) x0 x1 x2 x3 x4 x5 v215 Z214 v9 Z9 h
                  rw [if_neg hs203] at h
                  refine pE_lsi (t := 203) (o := 90) rfl rfl (by show Op.lookupswitch.offset [(0, 27), (1, 47)] 90 (v186).toInt = 90; rw [lv_osw (a := 0) hs188 rfl]; rw [lv_osw (a := 1) hs203 rfl]; rfl) rfl ?_
                  refine pE_many 6 (pc1 := 212) (L1 := [some (.ref x0), some (.ref x1), some (.ref x2), some (.ref x3), some (.int x4), some (.int x5), d6]) (st1 := [.ref x1, .int (670 + x5), .ref x0, .ref x2]) rfl ?_
                  have hk217 : mjRo Z182.2 x1 16 = true := by
                    by_cases q9 : mjRo Z182.2 x1 16 = true
                    · exact q9
                    · rw [if_neg q9] at h; cases h
                  rw [if_pos hk217] at h
                  cases hq218 : g196_teams x1 Z182 with
                  | none => rw [hq218] at h; cases h
                  | some v219 =>
                    rw [hq218, mjBp_some] at h
                    refine pE_callV (k2 := 196) (As := []) (rest := [.int (670 + x5), .ref x0, .ref x2]) rfl rfl rfl rfl rfl rfl hk217 (by decide) (by decide) (by decide) (g196_teams_ok hq218) ?_
                    show pE sg 200 256 215 [some (.ref x0), some (.ref x1), some (.ref x2), some (.ref x3), some (.int x4), some (.int x5), d6] [.int v219, .int (670 + x5), .ref x0, .ref x2] Z182 _
                    cases hq221 : g185_pick x0 (670 + x5) v219 Z182 with
                    | none => rw [hq221] at h; cases h
                    | some v222 =>
                      rw [hq221, mjBp_some] at h
                      refine pE_call (k2 := 185) (As := [.ref x0, .int (670 + x5), .int v219]) (rest := [.ref x2]) (w := 3) rfl (by decide) (by decide) (g185_pick_ok hq221) ?_
                      show pE sg 200 256 218 [some (.ref x0), some (.ref x1), some (.ref x2), some (.ref x3), some (.int x4), some (.int x5), d6] [.int v222, .ref x2] Z182 _
                      refine pE_many 7 (pc1 := 231) (L1 := [some (.ref x0), some (.ref x1), some (.ref x2), some (.ref x3), some (.int x4), some (.int x5), d6]) (st1 := [.int 200, .int (690 + x5), .ref x0, .int 30, .int 1, .int v222, .ref x2]) rfl ?_
                      cases hq224 : g185_pick x0 (690 + x5) 200 Z182 with
                      | none => rw [hq224] at h; cases h
                      | some v225 =>
                        rw [hq224, mjBp_some] at h
                        refine pE_call (k2 := 185) (As := [.ref x0, .int (690 + x5), .int 200]) (rest := [.int 30, .int 1, .int v222, .ref x2]) (w := 3) rfl (by decide) (by decide) (g185_pick_ok hq224) ?_
                        show pE sg 200 256 234 [some (.ref x0), some (.ref x1), some (.ref x2), some (.ref x3), some (.int x4), some (.int x5), d6] [.int v225, .int 30, .int 1, .int v222, .ref x2] Z182 _
                        refine pE_many 2 (pc1 := 236) (L1 := [some (.ref x0), some (.ref x1), some (.ref x2), some (.ref x3), some (.int x4), some (.int x5), d6]) (st1 := [.int 0, .int (30 + v225), .int 1, .int v222, .ref x2]) rfl ?_
                        have hk230 : mjRo Z182.2 x2 11 = true := by
                          by_cases q9 : mjRo Z182.2 x2 11 = true
                          · exact q9
                          · rw [if_neg q9] at h; cases h
                        rw [if_pos hk230] at h
                        cases hq227 : qCl (fun Zc => f192_measure v222 1 (30 + v225) 0 Zc) Z182 with
                        | none => rw [hq227] at h; cases h
                        | some w =>
                          obtain ⟨v229, Z228⟩ := w
                          rw [hq227, mjBq_some] at h
                          refine pE_callV (k2 := 164) (As := [.int v222, .int 1, .int (30 + v225), .int 0]) (rest := []) rfl rfl rfl rfl rfl rfl hk230 (by decide) (by decide) (by decide) (pE_cls (rv := (fun v => some (.int v))) hq227 (fun _ _ _ h9 => by rw [hk178]; exact f192_measure_ok h9)) ?_
                          show pE sg 200 256 239 [some (.ref x0), some (.ref x1), some (.ref x2), some (.ref x3), some (.int x4), some (.int x5), d6] [.int v229] Z228 _
                          refine pE_many 1 (pc1 := 241) (L1 := [some (.ref x0), some (.ref x1), some (.ref x2), some (.ref x3), some (.int x4), some (.int x5), some (.int v229)]) (st1 := []) rfl ?_
                          exact g256_law_j241_ok (g256_law_h69 sg n) (fun x0 x1 x2 x3 x4 x5 d6 Z v9 Z9 h => g256_law_h69_ok n x0 x1 x2 x3 x4 x5 d6 Z v9 Z9 h) x0 x1 x2 x3 x4 x5 v229 Z228 v9 Z9 h
              · rw [if_neg hc184] at h
                refine pE_iff (t := 102) rfl rfl hc184 ?_
                refine pE_many 1 (pc1 := 101) (L1 := [some (.ref x0), some (.ref x1), some (.ref x2), some (.ref x3), some (.int x4), some (.int x5), d6]) (st1 := [.int 0]) rfl ?_
                simp only [Option.some.injEq, Prod.mk.injEq] at h
                obtain ⟨rfl, rfl⟩ := h
                exact pE_ret (r := some (.int 0)) rfl ⟨rfl, rfl⟩
noncomputable def g256_law (sg : Nat → Nat) (p0 : Nat) (Z : mjQ) : Option (Int32 × mjQ) :=
  mjBq (qNew sg Z (16, 0)) fun v101 Z103 =>
  mjBp (qWo sg v101 p0 Z103) fun Z105 =>
  mjBq (qNew sg Z105 (11, 0)) fun v107 Z109 =>
  mjBp (qIni sg v107 Z109) fun Z111 =>
  if v107 = 0 then
  if mjRo Z111.2 v107 11 = true then
  mjBq (qCl (fun Zc => f193_undo  Zc) Z111) fun v115 Z114 =>
  if mjCmp .ne v115 ((-1)) = true then
    some (0, Z114)
  else
    if mjRo Z114.2 v107 11 = true then
    mjBp (qClp (fun Zc => f157_lane 1 Zc) Z114) fun v121 =>
    if mjCmp .ne v121 ((-1)) = true then
      some (0, Z114)
    else
      mjBp (qR Z114.2 v101 16 13) fun v124 =>
      mjBq (g198_feeds sg v107 v124 Z114) fun v127 Z128 =>
      if mjCmp .eq v127 0 = true then
        some (0, Z128)
      else
        if mjRo Z128.2 v107 11 = true then
        mjBq (qCl (fun Zc => f152_book  Zc) Z128) fun v132 Z131 =>
        mjBp (qI Z131.2 v101 16 7) fun v134 =>
        if mjCmp .eq v132 v134 = true then
          mjBq (g199_all sg v107 Z131) fun v138 Z139 =>
          g256_law_h69 sg mjF p0 v101 v107 v138 0 0 Z139
        else
          some (0, Z131)
        else none
    else none
  else none
  else none
set_option maxRecDepth 100000 in
theorem g256_law_ok {sg : Nat → Nat} {p0 : Nat} {Z : mjQ} {v9 : Int32} {Z9 : mjQ} (h : g256_law sg p0 Z = some (v9, Z9)) : pE sg 200 256 0 (mjEnt [.ref p0] (mjML 256)) [] Z (fun r M1 => r = some (.int v9) ∧ M1 = Z9) := by
  unfold g256_law at h
  show pE sg 200 256 0 [some (.ref p0), none, none, none, none, none, none] [] Z _
  cases hq102 : qNew sg Z (16, 0) with
  | none => rw [hq102] at h; cases h
  | some w =>
    obtain ⟨v101, Z103⟩ := w
    rw [hq102, mjBq_some] at h
    refine pE_newO rfl rfl (by decide) hq102 ?_
    refine pE_many 2 (pc1 := 5) (L1 := [some (.ref p0), none, none, none, none, none, none]) (st1 := [.ref p0, .ref v101, .ref v101]) rfl ?_
    cases hq104 : qWo sg v101 p0 Z103 with
    | none => rw [hq104] at h; cases h
    | some Z105 =>
      rw [hq104, mjBp_some] at h
      refine pE_call (k2 := 197) (As := [.ref v101, .ref p0]) (rest := [.ref v101]) (w := 3) rfl (by decide) (by decide) (qWo_ok hq104) ?_
      show pE sg 200 256 8 [some (.ref p0), none, none, none, none, none, none] [.ref v101] Z105 _
      refine pE_many 1 (pc1 := 9) (L1 := [some (.ref p0), some (.ref v101), none, none, none, none, none]) (st1 := []) rfl ?_
      cases hq108 : qNew sg Z105 (11, 0) with
      | none => rw [hq108] at h; cases h
      | some w =>
        obtain ⟨v107, Z109⟩ := w
        rw [hq108, mjBq_some] at h
        refine pE_newO rfl rfl (by decide) hq108 ?_
        refine pE_many 1 (pc1 := 13) (L1 := [some (.ref p0), some (.ref v101), none, none, none, none, none]) (st1 := [.ref v107, .ref v107]) rfl ?_
        cases hq110 : qIni sg v107 Z109 with
        | none => rw [hq110] at h; cases h
        | some Z111 =>
          rw [hq110, mjBp_some] at h
          refine pE_call (k2 := 134) (As := [.ref v107]) (rest := [.ref v107]) (w := 3) rfl (by decide) (by decide) (qIni_ok hq110) ?_
          show pE sg 200 256 16 [some (.ref p0), some (.ref v101), none, none, none, none, none] [.ref v107] Z111 _
          refine pE_many 2 (pc1 := 18) (L1 := [some (.ref p0), some (.ref v101), some (.ref v107), none, none, none, none]) (st1 := [.ref v107]) rfl ?_
          have hk116 : v107 = 0 := by
            by_cases q9 : v107 = 0
            · exact q9
            · rw [if_neg q9] at h; cases h
          rw [if_pos hk116] at h
          have hk117 : mjRo Z111.2 v107 11 = true := by
            by_cases q9 : mjRo Z111.2 v107 11 = true
            · exact q9
            · rw [if_neg q9] at h; cases h
          rw [if_pos hk117] at h
          cases hq113 : qCl (fun Zc => f193_undo  Zc) Z111 with
          | none => rw [hq113] at h; cases h
          | some w =>
            obtain ⟨v115, Z114⟩ := w
            rw [hq113, mjBq_some] at h
            refine pE_callV (k2 := 165) (As := []) (rest := []) rfl rfl rfl rfl rfl rfl hk117 (by decide) (by decide) (by decide) (pE_cls (rv := (fun v => some (.int v))) hq113 (fun _ _ _ h9 => by rw [hk116]; exact f193_undo_ok h9)) ?_
            show pE sg 200 256 21 [some (.ref p0), some (.ref v101), some (.ref v107), none, none, none, none] [.int v115] Z114 _
            refine pE_many 1 (pc1 := 22) (L1 := [some (.ref p0), some (.ref v101), some (.ref v107), none, none, none, none]) (st1 := [.int ((-1)), .int v115]) rfl ?_
            by_cases hc118 : mjCmp .ne v115 ((-1)) = true
            · rw [if_pos hc118] at h
              refine pE_cmt (t := 56) rfl rfl hc118 ?_
              refine pE_many 1 (pc1 := 57) (L1 := [some (.ref p0), some (.ref v101), some (.ref v107), none, none, none, none]) (st1 := [.int 0]) rfl ?_
              simp only [Option.some.injEq, Prod.mk.injEq] at h
              obtain ⟨rfl, rfl⟩ := h
              exact pE_ret (r := some (.int 0)) rfl ⟨rfl, rfl⟩
            · rw [if_neg hc118] at h
              refine pE_cmf (t := 56) rfl rfl hc118 ?_
              refine pE_many 2 (pc1 := 27) (L1 := [some (.ref p0), some (.ref v101), some (.ref v107), none, none, none, none]) (st1 := [.int 1, .ref v107]) rfl ?_
              have hk122 : mjRo Z114.2 v107 11 = true := by
                by_cases q9 : mjRo Z114.2 v107 11 = true
                · exact q9
                · rw [if_neg q9] at h; cases h
              rw [if_pos hk122] at h
              cases hq119 : qClp (fun Zc => f157_lane 1 Zc) Z114 with
              | none => rw [hq119] at h; cases h
              | some v121 =>
                rw [hq119, mjBp_some] at h
                refine pE_callV (k2 := 142) (As := [.int 1]) (rest := []) rfl rfl rfl rfl rfl rfl hk122 (by decide) (by decide) (by decide) (pE_clp (rv := (fun v => some (.int v))) hq119 (fun _ _ h9 => by rw [hk116]; exact f157_lane_ok h9)) ?_
                show pE sg 200 256 30 [some (.ref p0), some (.ref v101), some (.ref v107), none, none, none, none] [.int v121] Z114 _
                refine pE_many 1 (pc1 := 31) (L1 := [some (.ref p0), some (.ref v101), some (.ref v107), none, none, none, none]) (st1 := [.int ((-1)), .int v121]) rfl ?_
                by_cases hc123 : mjCmp .ne v121 ((-1)) = true
                · rw [if_pos hc123] at h
                  refine pE_cmt (t := 56) rfl rfl hc123 ?_
                  refine pE_many 1 (pc1 := 57) (L1 := [some (.ref p0), some (.ref v101), some (.ref v107), none, none, none, none]) (st1 := [.int 0]) rfl ?_
                  simp only [Option.some.injEq, Prod.mk.injEq] at h
                  obtain ⟨rfl, rfl⟩ := h
                  exact pE_ret (r := some (.int 0)) rfl ⟨rfl, rfl⟩
                · rw [if_neg hc123] at h
                  refine pE_cmf (t := 56) rfl rfl hc123 ?_
                  refine pE_many 2 (pc1 := 36) (L1 := [some (.ref p0), some (.ref v101), some (.ref v107), none, none, none, none]) (st1 := [.ref v101, .ref v107]) rfl ?_
                  cases hq125 : qR Z114.2 v101 16 13 with
                  | none => rw [hq125] at h; cases h
                  | some v124 =>
                    rw [hq125, mjBp_some] at h
                    refine pE_gR rfl rfl hq125 ?_
                    cases hq126 : g198_feeds sg v107 v124 Z114 with
                    | none => rw [hq126] at h; cases h
                    | some w =>
                      obtain ⟨v127, Z128⟩ := w
                      rw [hq126, mjBq_some] at h
                      refine pE_call (k2 := 198) (As := [.ref v107, .ref v124]) (rest := []) (w := 3) rfl (by decide) (by decide) (g198_feeds_ok hq126) ?_
                      show pE sg 200 256 42 [some (.ref p0), some (.ref v101), some (.ref v107), none, none, none, none] [.int v127] Z128 _
                      by_cases hc129 : mjCmp .eq v127 0 = true
                      · rw [if_pos hc129] at h
                        refine pE_ift (t := 56) rfl rfl hc129 ?_
                        refine pE_many 1 (pc1 := 57) (L1 := [some (.ref p0), some (.ref v101), some (.ref v107), none, none, none, none]) (st1 := [.int 0]) rfl ?_
                        simp only [Option.some.injEq, Prod.mk.injEq] at h
                        obtain ⟨rfl, rfl⟩ := h
                        exact pE_ret (r := some (.int 0)) rfl ⟨rfl, rfl⟩
                      · rw [if_neg hc129] at h
                        refine pE_iff (t := 56) rfl rfl hc129 ?_
                        refine pE_many 1 (pc1 := 46) (L1 := [some (.ref p0), some (.ref v101), some (.ref v107), none, none, none, none]) (st1 := [.ref v107]) rfl ?_
                        have hk133 : mjRo Z128.2 v107 11 = true := by
                          by_cases q9 : mjRo Z128.2 v107 11 = true
                          · exact q9
                          · rw [if_neg q9] at h; cases h
                        rw [if_pos hk133] at h
                        cases hq130 : qCl (fun Zc => f152_book  Zc) Z128 with
                        | none => rw [hq130] at h; cases h
                        | some w =>
                          obtain ⟨v132, Z131⟩ := w
                          rw [hq130, mjBq_some] at h
                          refine pE_callV (k2 := 139) (As := []) (rest := []) rfl rfl rfl rfl rfl rfl hk133 (by decide) (by decide) (by decide) (pE_cls (rv := (fun v => some (.int v))) hq130 (fun _ _ _ h9 => by rw [hk116]; exact f152_book_ok h9)) ?_
                          show pE sg 200 256 49 [some (.ref p0), some (.ref v101), some (.ref v107), none, none, none, none] [.int v132] Z131 _
                          refine pE_many 1 (pc1 := 50) (L1 := [some (.ref p0), some (.ref v101), some (.ref v107), none, none, none, none]) (st1 := [.ref v101, .int v132]) rfl ?_
                          cases hq135 : qI Z131.2 v101 16 7 with
                          | none => rw [hq135] at h; cases h
                          | some v134 =>
                            rw [hq135, mjBp_some] at h
                            refine pE_gI rfl rfl hq135 ?_
                            by_cases hc136 : mjCmp .eq v132 v134 = true
                            · rw [if_pos hc136] at h
                              refine pE_cmt (t := 58) rfl rfl hc136 ?_
                              refine pE_many 1 (pc1 := 59) (L1 := [some (.ref p0), some (.ref v101), some (.ref v107), none, none, none, none]) (st1 := [.ref v107]) rfl ?_
                              cases hq137 : g199_all sg v107 Z131 with
                              | none => rw [hq137] at h; cases h
                              | some w =>
                                obtain ⟨v138, Z139⟩ := w
                                rw [hq137, mjBq_some] at h
                                refine pE_call (k2 := 199) (As := [.ref v107]) (rest := []) (w := 3) rfl (by decide) (by decide) (g199_all_ok hq137) ?_
                                show pE sg 200 256 62 [some (.ref p0), some (.ref v101), some (.ref v107), none, none, none, none] [.ref v138] Z139 _
                                refine pE_many 5 (pc1 := 69) (L1 := [some (.ref p0), some (.ref v101), some (.ref v107), some (.ref v138), some (.int 0), some (.int 0), none]) (st1 := []) rfl ?_
                                exact g256_law_h69_ok mjF p0 v101 v107 v138 0 0 none Z139 v9 Z9 h
                            · rw [if_neg hc136] at h
                              refine pE_cmf (t := 58) rfl rfl hc136 ?_
                              refine pE_many 1 (pc1 := 57) (L1 := [some (.ref p0), some (.ref v101), some (.ref v107), none, none, none, none]) (st1 := [.int 0]) rfl ?_
                              simp only [Option.some.injEq, Prod.mk.injEq] at h
                              obtain ⟨rfl, rfl⟩ := h
                              exact pE_ret (r := some (.int 0)) rfl ⟨rfl, rfl⟩
