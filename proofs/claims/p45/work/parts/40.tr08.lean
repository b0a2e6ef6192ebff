def f701_judged_h435 (K : Int32 → Int32 → Int32 → mjZt → Option (Int32 × mjZt)) : Nat → Int32 → Int32 → Int32 → Int32 → Int32 → mjZt → Option (Int32 × mjZt)
  | 0, _, _, _, _, _, _ => none
  | n + 1, x3, x4, x5, x6, x7, Z =>
    mjBp (f154_about 7 Z) fun v161 =>
    if mjCmp .ge x7 v161 = true then
      K x3 x5 x6 Z
    else
      if mjCmp .ne (((x4 : Int32) >>> ((x7 : Int32) &&& 31)) &&& 1) 0 = true then
        mjBd (f191_waive x7 Z) fun v166 Z167 =>
        if mjCmp .eq v166 1 = true then
          f701_judged_h435 K n x3 x4 x5 (x6 + 1) (x7 + 1) Z167
        else
          some (0, Z167)
      else
        f701_judged_h435 K n x3 x4 x5 x6 (x7 + 1) Z
set_option maxRecDepth 100000 in
theorem f701_judged_h435_ok (K : Int32 → Int32 → Int32 → mjZt → Option (Int32 × mjZt)) (hK : ∀ (x3 : Int32) (x5 : Int32) (x6 : Int32) (d1 d2 d4 d7 : Option Value) (Z : mjZt) (v9 : Int32) (Z9 : mjZt), K x3 x5 x6 Z = some (v9, Z9) → pG 201 480 [some (.ref 0), d1, d2, some (.int x3), d4, some (.int x5), some (.int x6), d7] [] (mjTo Z) (fun r M1 => r = some (.int v9) ∧ M1 = mjTo Z9)) : ∀ (n : Nat) (x3 : Int32) (x4 : Int32) (x5 : Int32) (x6 : Int32) (x7 : Int32) (d1 d2 : Option Value) (Z : mjZt) (v9 : Int32) (Z9 : mjZt), f701_judged_h435 K n x3 x4 x5 x6 x7 Z = some (v9, Z9) → pG 201 435 [some (.ref 0), d1, d2, some (.int x3), some (.int x4), some (.int x5), some (.int x6), some (.int x7)] [] (mjTo Z) (fun r M1 => r = some (.int v9) ∧ M1 = mjTo Z9)
  | 0, x3, x4, x5, x6, x7, d1, d2, Z, v9, Z9, h => by rw [f701_judged_h435] at h; cases h
  | n + 1, x3, x4, x5, x6, x7, d1, d2, Z, v9, Z9, h => by
      rw [f701_judged_h435] at h
      refine pG_many 3 (pc1 := 440) (L1 := [some (.ref 0), d1, d2, some (.int x3), some (.int x4), some (.int x5), some (.int x6), some (.int x7)]) (st1 := [.int 7, .ref 0, .int x7]) (M1 := mjTo Z) (fun _ _ => rfl) ?_
      cases hq160 : f154_about 7 Z with
      | none => rw [hq160] at h; cases h
      | some v161 =>
        rw [hq160, mjBp_some] at h
        refine pG_callV (k2 := 140) (As := [.ref 0, .int 7]) (rest := [.int x7]) rfl rfl rfl rfl rfl (by rfl) (by decide) (by decide) (f154_about_ok hq160) ?_
        rintro r9 M9 ⟨rfl, rfl⟩
        show pG 201 443 [some (.ref 0), d1, d2, some (.int x3), some (.int x4), some (.int x5), some (.int x6), some (.int x7)] [.int v161, .int x7] (mjTo Z) _
        by_cases hc163 : mjCmp .ge x7 v161 = true
        · rw [if_pos hc163] at h
          refine pG_cmt (t := 480) rfl rfl hc163 ?_
          exact hK x3 x5 x6 d1 d2 (some (.int x4)) (some (.int x7)) Z v9 Z9 h
        · rw [if_neg hc163] at h
          refine pG_cmf (t := 480) rfl rfl hc163 ?_
          refine pG_many 5 (pc1 := 453) (L1 := [some (.ref 0), d1, d2, some (.int x3), some (.int x4), some (.int x5), some (.int x6), some (.int x7)]) (st1 := [.int (((x4 : Int32) >>> ((x7 : Int32) &&& 31)) &&& 1)]) (M1 := mjTo Z) (fun _ _ => rfl) ?_
          by_cases hc164 : mjCmp .ne (((x4 : Int32) >>> ((x7 : Int32) &&& 31)) &&& 1) 0 = true
          · rw [if_pos hc164] at h
            refine pG_ift (t := 459) rfl rfl hc164 ?_
            refine pG_many 2 (pc1 := 462) (L1 := [some (.ref 0), d1, d2, some (.int x3), some (.int x4), some (.int x5), some (.int x6), some (.int x7)]) (st1 := [.int x7, .ref 0]) (M1 := mjTo Z) (fun _ _ => rfl) ?_
            cases hq165 : f191_waive x7 Z with
            | none => rw [hq165] at h; cases h
            | some w =>
              obtain ⟨v166, Z167⟩ := w
              rw [hq165, mjBd_some] at h
              refine pG_callV (k2 := 163) (As := [.ref 0, .int x7]) (rest := []) rfl rfl rfl rfl rfl (by rfl) (by decide) (by decide) (f191_waive_ok hq165) ?_
              rintro r9 M9 ⟨rfl, rfl⟩
              show pG 201 465 [some (.ref 0), d1, d2, some (.int x3), some (.int x4), some (.int x5), some (.int x6), some (.int x7)] [.int v166] (mjTo Z167) _
              refine pG_many 1 (pc1 := 466) (L1 := [some (.ref 0), d1, d2, some (.int x3), some (.int x4), some (.int x5), some (.int x6), some (.int x7)]) (st1 := [.int 1, .int v166]) (M1 := mjTo Z167) (fun _ _ => rfl) ?_
              by_cases hc168 : mjCmp .eq v166 1 = true
              · rw [if_pos hc168] at h
                refine pG_cmt (t := 471) rfl rfl hc168 ?_
                refine pG_many 3 (pc1 := 435) (L1 := [some (.ref 0), d1, d2, some (.int x3), some (.int x4), some (.int x5), some (.int (x6 + 1)), some (.int (x7 + 1))]) (st1 := []) (M1 := mjTo Z167) (fun _ _ => rfl) ?_
                exact f701_judged_h435_ok K hK n x3 x4 x5 (x6 + 1) (x7 + 1) d1 d2 Z167 v9 Z9 h
              · rw [if_neg hc168] at h
                refine pG_cmf (t := 471) rfl rfl hc168 ?_
                refine pG_many 1 (pc1 := 470) (L1 := [some (.ref 0), d1, d2, some (.int x3), some (.int x4), some (.int x5), some (.int x6), some (.int x7)]) (st1 := [.int 0]) (M1 := mjTo Z167) (fun _ _ => rfl) ?_
                simp only [Option.some.injEq, Prod.mk.injEq] at h
                obtain ⟨rfl, rfl⟩ := h
                exact pG_ret (r := some (.int 0)) rfl ⟨rfl, rfl⟩
          · rw [if_neg hc164] at h
            refine pG_iff (t := 459) rfl rfl hc164 ?_
            refine pG_many 3 (pc1 := 435) (L1 := [some (.ref 0), d1, d2, some (.int x3), some (.int x4), some (.int x5), some (.int x6), some (.int (x7 + 1))]) (st1 := []) (M1 := mjTo Z) (fun _ _ => rfl) ?_
            exact f701_judged_h435_ok K hK n x3 x4 x5 x6 (x7 + 1) d1 d2 Z v9 Z9 h
def f701_judged_h491 (K : Int32 → Int32 → mjZt → Option (Int32 × mjZt)) : Nat → Int32 → Int32 → Int32 → mjZt → Option (Int32 × mjZt)
  | 0, _, _, _, _ => none
  | n + 1, x3, x5, x6, Z =>
    if mjCmp .le x6 0 = true then
      K x3 x5 Z
    else
      mjBd (f193_undo  Z) fun v176 Z177 =>
      if mjCmp .ge v176 0 = true then
        f701_judged_h491 K n x3 x5 (x6 + (-1)) Z177
      else
        some (0, Z177)
set_option maxRecDepth 100000 in
theorem f701_judged_h491_ok (K : Int32 → Int32 → mjZt → Option (Int32 × mjZt)) (hK : ∀ (x3 : Int32) (x5 : Int32) (d1 d2 d4 d6 d7 : Option Value) (Z : mjZt) (v9 : Int32) (Z9 : mjZt), K x3 x5 Z = some (v9, Z9) → pG 201 511 [some (.ref 0), d1, d2, some (.int x3), d4, some (.int x5), d6, d7] [] (mjTo Z) (fun r M1 => r = some (.int v9) ∧ M1 = mjTo Z9)) : ∀ (n : Nat) (x3 : Int32) (x5 : Int32) (x6 : Int32) (d1 d2 d4 d7 : Option Value) (Z : mjZt) (v9 : Int32) (Z9 : mjZt), f701_judged_h491 K n x3 x5 x6 Z = some (v9, Z9) → pG 201 491 [some (.ref 0), d1, d2, some (.int x3), d4, some (.int x5), some (.int x6), d7] [] (mjTo Z) (fun r M1 => r = some (.int v9) ∧ M1 = mjTo Z9)
  | 0, x3, x5, x6, d1, d2, d4, d7, Z, v9, Z9, h => by rw [f701_judged_h491] at h; cases h
  | n + 1, x3, x5, x6, d1, d2, d4, d7, Z, v9, Z9, h => by
      rw [f701_judged_h491] at h
      refine pG_many 1 (pc1 := 493) (L1 := [some (.ref 0), d1, d2, some (.int x3), d4, some (.int x5), some (.int x6), d7]) (st1 := [.int x6]) (M1 := mjTo Z) (fun _ _ => rfl) ?_
      by_cases hc174 : mjCmp .le x6 0 = true
      · rw [if_pos hc174] at h
        refine pG_ift (t := 511) rfl rfl hc174 ?_
        exact hK x3 x5 d1 d2 d4 (some (.int x6)) d7 Z v9 Z9 h
      · rw [if_neg hc174] at h
        refine pG_iff (t := 511) rfl rfl hc174 ?_
        refine pG_many 1 (pc1 := 497) (L1 := [some (.ref 0), d1, d2, some (.int x3), d4, some (.int x5), some (.int x6), d7]) (st1 := [.ref 0]) (M1 := mjTo Z) (fun _ _ => rfl) ?_
        cases hq175 : f193_undo  Z with
        | none => rw [hq175] at h; cases h
        | some w =>
          obtain ⟨v176, Z177⟩ := w
          rw [hq175, mjBd_some] at h
          refine pG_callV (k2 := 165) (As := [.ref 0]) (rest := []) rfl rfl rfl rfl rfl (by rfl) (by decide) (by decide) (f193_undo_ok hq175) ?_
          rintro r9 M9 ⟨rfl, rfl⟩
          show pG 201 500 [some (.ref 0), d1, d2, some (.int x3), d4, some (.int x5), some (.int x6), d7] [.int v176] (mjTo Z177) _
          by_cases hc178 : mjCmp .ge v176 0 = true
          · rw [if_pos hc178] at h
            refine pG_ift (t := 505) rfl rfl hc178 ?_
            refine pG_many 2 (pc1 := 491) (L1 := [some (.ref 0), d1, d2, some (.int x3), d4, some (.int x5), some (.int (x6 + (-1))), d7]) (st1 := []) (M1 := mjTo Z177) (fun _ _ => rfl) ?_
            exact f701_judged_h491_ok K hK n x3 x5 (x6 + (-1)) d1 d2 d4 d7 Z177 v9 Z9 h
          · rw [if_neg hc178] at h
            refine pG_iff (t := 505) rfl rfl hc178 ?_
            refine pG_many 1 (pc1 := 504) (L1 := [some (.ref 0), d1, d2, some (.int x3), d4, some (.int x5), some (.int x6), d7]) (st1 := [.int 0]) (M1 := mjTo Z177) (fun _ _ => rfl) ?_
            simp only [Option.some.injEq, Prod.mk.injEq] at h
            obtain ⟨rfl, rfl⟩ := h
            exact pG_ret (r := some (.int 0)) rfl ⟨rfl, rfl⟩
def f701_judged_h362 : Nat → Int32 → mjZt → Option (Int32 × mjZt)
  | 0, _, _ => none
  | n + 1, x3, Z =>
    mjBp (f154_about 5 Z) fun v138 =>
    if mjCmp .ge x3 v138 = true then
      some (1, Z)
    else
      mjBd (f189_stays x3 1 Z) fun v142 Z143 =>
      if mjCmp .ge v142 0 = true then
        mjBp (f323_bitCount v142 Z143) fun v146 =>
        mjBd (f189_stays x3 0 Z143) fun v149 Z150 =>
        if mjCmp .eq v146 v149 = true then
          mjBp (f154_about 11 Z150) fun v153 =>
          if mjCmp .gt v153 4 = true then
            f701_judged_h362 n (x3 + 1) Z150
          else
            mjBp (f323_bitCount v142 Z150) fun v157 =>
            if mjCmp .le v157 4 = true then
              f701_judged_h435 (fun x3_Z169 x5_Z169 x6_Z169 Z169 =>
                mjBp (f179_struck x3_Z169 2 Z169) fun v171 =>
                if mjCmp .eq v171 0 = true then
                  f701_judged_h491 (fun x3_Z179 x5_Z179 Z179 =>
                    mjBp (f154_about 11 Z179) fun v181 =>
                    if mjCmp .eq v181 x5_Z179 = true then
                      f701_judged_h362 n (x3_Z179 + 1) Z179
                    else
                      some (0, Z179)
                    ) mjF x3_Z169 x5_Z169 x6_Z169 Z169
                else
                  some (0, Z169)
                ) mjF x3 v142 v153 0 0 Z150
            else
              f701_judged_h362 n (x3 + 1) Z150
        else
          some (0, Z150)
      else
        f701_judged_h362 n (x3 + 1) Z143
set_option maxRecDepth 100000 in
theorem f701_judged_h362_ok : ∀ (n : Nat) (x3 : Int32) (d1 d2 d4 d5 d6 d7 : Option Value) (Z : mjZt) (v9 : Int32) (Z9 : mjZt), f701_judged_h362 n x3 Z = some (v9, Z9) → pG 201 362 [some (.ref 0), d1, d2, some (.int x3), d4, d5, d6, d7] [] (mjTo Z) (fun r M1 => r = some (.int v9) ∧ M1 = mjTo Z9)
  | 0, x3, d1, d2, d4, d5, d6, d7, Z, v9, Z9, h => by rw [f701_judged_h362] at h; cases h
  | n + 1, x3, d1, d2, d4, d5, d6, d7, Z, v9, Z9, h => by
      rw [f701_judged_h362] at h
      refine pG_many 3 (pc1 := 365) (L1 := [some (.ref 0), d1, d2, some (.int x3), d4, d5, d6, d7]) (st1 := [.int 5, .ref 0, .int x3]) (M1 := mjTo Z) (fun _ _ => rfl) ?_
      cases hq137 : f154_about 5 Z with
      | none => rw [hq137] at h; cases h
      | some v138 =>
        rw [hq137, mjBp_some] at h
        refine pG_callV (k2 := 140) (As := [.ref 0, .int 5]) (rest := [.int x3]) rfl rfl rfl rfl rfl (by rfl) (by decide) (by decide) (f154_about_ok hq137) ?_
        rintro r9 M9 ⟨rfl, rfl⟩
        show pG 201 368 [some (.ref 0), d1, d2, some (.int x3), d4, d5, d6, d7] [.int v138, .int x3] (mjTo Z) _
        by_cases hc140 : mjCmp .ge x3 v138 = true
        · rw [if_pos hc140] at h
          refine pG_cmt (t := 530) rfl rfl hc140 ?_
          refine pG_many 1 (pc1 := 531) (L1 := [some (.ref 0), d1, d2, some (.int x3), d4, d5, d6, d7]) (st1 := [.int 1]) (M1 := mjTo Z) (fun _ _ => rfl) ?_
          simp only [Option.some.injEq, Prod.mk.injEq] at h
          obtain ⟨rfl, rfl⟩ := h
          exact pG_ret (r := some (.int 1)) rfl ⟨rfl, rfl⟩
        · rw [if_neg hc140] at h
          refine pG_cmf (t := 530) rfl rfl hc140 ?_
          refine pG_many 3 (pc1 := 374) (L1 := [some (.ref 0), d1, d2, some (.int x3), d4, d5, d6, d7]) (st1 := [.int 1, .int x3, .ref 0]) (M1 := mjTo Z) (fun _ _ => rfl) ?_
          cases hq141 : f189_stays x3 1 Z with
          | none => rw [hq141] at h; cases h
          | some w =>
            obtain ⟨v142, Z143⟩ := w
            rw [hq141, mjBd_some] at h
            refine pG_callV (k2 := 161) (As := [.ref 0, .int x3, .int 1]) (rest := []) rfl rfl rfl rfl rfl (by rfl) (by decide) (by decide) (f189_stays_ok hq141) ?_
            rintro r9 M9 ⟨rfl, rfl⟩
            show pG 201 377 [some (.ref 0), d1, d2, some (.int x3), d4, d5, d6, d7] [.int v142] (mjTo Z143) _
            refine pG_many 2 (pc1 := 381) (L1 := [some (.ref 0), d1, d2, some (.int x3), some (.int v142), d5, d6, d7]) (st1 := [.int v142]) (M1 := mjTo Z143) (fun _ _ => rfl) ?_
            by_cases hc144 : mjCmp .ge v142 0 = true
            · rw [if_pos hc144] at h
              refine pG_ift (t := 387) rfl rfl hc144 ?_
              refine pG_many 1 (pc1 := 389) (L1 := [some (.ref 0), d1, d2, some (.int x3), some (.int v142), d5, d6, d7]) (st1 := [.int v142]) (M1 := mjTo Z143) (fun _ _ => rfl) ?_
              cases hq145 : f323_bitCount v142 Z143 with
              | none => rw [hq145] at h; cases h
              | some v146 =>
                rw [hq145, mjBp_some] at h
                refine pG_call (k2 := 166) (As := [.int v142]) (rest := []) (fun _ _ => rfl) (by decide) (by decide) (f323_bitCount_ok hq145) ?_
                rintro r9 M9 ⟨rfl, rfl⟩
                show pG 201 392 [some (.ref 0), d1, d2, some (.int x3), some (.int v142), d5, d6, d7] [.int v146] (mjTo Z143) _
                refine pG_many 3 (pc1 := 395) (L1 := [some (.ref 0), d1, d2, some (.int x3), some (.int v142), d5, d6, d7]) (st1 := [.int 0, .int x3, .ref 0, .int v146]) (M1 := mjTo Z143) (fun _ _ => rfl) ?_
                cases hq148 : f189_stays x3 0 Z143 with
                | none => rw [hq148] at h; cases h
                | some w =>
                  obtain ⟨v149, Z150⟩ := w
                  rw [hq148, mjBd_some] at h
                  refine pG_callV (k2 := 161) (As := [.ref 0, .int x3, .int 0]) (rest := [.int v146]) rfl rfl rfl rfl rfl (by rfl) (by decide) (by decide) (f189_stays_ok hq148) ?_
                  rintro r9 M9 ⟨rfl, rfl⟩
                  show pG 201 398 [some (.ref 0), d1, d2, some (.int x3), some (.int v142), d5, d6, d7] [.int v149, .int v146] (mjTo Z150) _
                  by_cases hc151 : mjCmp .eq v146 v149 = true
                  · rw [if_pos hc151] at h
                    refine pG_cmt (t := 403) rfl rfl hc151 ?_
                    refine pG_many 2 (pc1 := 406) (L1 := [some (.ref 0), d1, d2, some (.int x3), some (.int v142), d5, d6, d7]) (st1 := [.int 11, .ref 0]) (M1 := mjTo Z150) (fun _ _ => rfl) ?_
                    cases hq152 : f154_about 11 Z150 with
                    | none => rw [hq152] at h; cases h
                    | some v153 =>
                      rw [hq152, mjBp_some] at h
                      refine pG_callV (k2 := 140) (As := [.ref 0, .int 11]) (rest := []) rfl rfl rfl rfl rfl (by rfl) (by decide) (by decide) (f154_about_ok hq152) ?_
                      rintro r9 M9 ⟨rfl, rfl⟩
                      show pG 201 409 [some (.ref 0), d1, d2, some (.int x3), some (.int v142), d5, d6, d7] [.int v153] (mjTo Z150) _
                      refine pG_many 3 (pc1 := 414) (L1 := [some (.ref 0), d1, d2, some (.int x3), some (.int v142), some (.int v153), d6, d7]) (st1 := [.int 4, .int v153]) (M1 := mjTo Z150) (fun _ _ => rfl) ?_
                      by_cases hc155 : mjCmp .gt v153 4 = true
                      · rw [if_pos hc155] at h
                        refine pG_cmt (t := 524) rfl rfl hc155 ?_
                        refine pG_many 2 (pc1 := 362) (L1 := [some (.ref 0), d1, (mjK1 d2), some (.int (x3 + 1)), some (.int v142), some (.int v153), d6, d7]) (st1 := []) (M1 := mjTo Z150) (fun _ _ => rfl) ?_
                        exact f701_judged_h362_ok n (x3 + 1) d1 ((mjK1 d2)) (some (.int v142)) (some (.int v153)) d6 d7 Z150 v9 Z9 h
                      · rw [if_neg hc155] at h
                        refine pG_cmf (t := 524) rfl rfl hc155 ?_
                        refine pG_many 1 (pc1 := 419) (L1 := [some (.ref 0), d1, d2, some (.int x3), some (.int v142), some (.int v153), d6, d7]) (st1 := [.int v142]) (M1 := mjTo Z150) (fun _ _ => rfl) ?_
                        cases hq156 : f323_bitCount v142 Z150 with
                        | none => rw [hq156] at h; cases h
                        | some v157 =>
                          rw [hq156, mjBp_some] at h
                          refine pG_call (k2 := 166) (As := [.int v142]) (rest := []) (fun _ _ => rfl) (by decide) (by decide) (f323_bitCount_ok hq156) ?_
                          rintro r9 M9 ⟨rfl, rfl⟩
                          show pG 201 422 [some (.ref 0), d1, d2, some (.int x3), some (.int v142), some (.int v153), d6, d7] [.int v157] (mjTo Z150) _
                          refine pG_many 1 (pc1 := 423) (L1 := [some (.ref 0), d1, d2, some (.int x3), some (.int v142), some (.int v153), d6, d7]) (st1 := [.int 4, .int v157]) (M1 := mjTo Z150) (fun _ _ => rfl) ?_
                          by_cases hc159 : mjCmp .le v157 4 = true
                          · rw [if_pos hc159] at h
                            refine pG_cmt (t := 429) rfl rfl hc159 ?_
                            refine pG_many 4 (pc1 := 435) (L1 := [some (.ref 0), d1, d2, some (.int x3), some (.int v142), some (.int v153), some (.int 0), some (.int 0)]) (st1 := []) (M1 := mjTo Z150) (fun _ _ => rfl) ?_
                            refine f701_judged_h435_ok _ ?_ mjF x3 v142 v153 0 0 d1 d2 Z150 v9 Z9 h
                            clear h
                            intro x3_Z169 x5_Z169 x6_Z169 d1 d2 d4 d7 Z169 v9 Z9 h
                            refine pG_many 3 (pc1 := 483) (L1 := [some (.ref 0), d1, d2, some (.int x3_Z169), d4, some (.int x5_Z169), some (.int x6_Z169), d7]) (st1 := [.int 2, .int x3_Z169, .ref 0]) (M1 := mjTo Z169) (fun _ _ => rfl) ?_
                            cases hq170 : f179_struck x3_Z169 2 Z169 with
                            | none => rw [hq170] at h; cases h
                            | some v171 =>
                              rw [hq170, mjBp_some] at h
                              refine pG_callV (k2 := 155) (As := [.ref 0, .int x3_Z169, .int 2]) (rest := []) rfl rfl rfl rfl rfl (by rfl) (by decide) (by decide) (f179_struck_ok hq170) ?_
                              rintro r9 M9 ⟨rfl, rfl⟩
                              show pG 201 486 [some (.ref 0), d1, d2, some (.int x3_Z169), d4, some (.int x5_Z169), some (.int x6_Z169), d7] [.int v171] (mjTo Z169) _
                              by_cases hc173 : mjCmp .eq v171 0 = true
                              · rw [if_pos hc173] at h
                                refine pG_ift (t := 491) rfl rfl hc173 ?_
                                refine f701_judged_h491_ok _ ?_ mjF x3_Z169 x5_Z169 x6_Z169 d1 d2 d4 d7 Z169 v9 Z9 h
                                clear h
                                intro x3_Z179 x5_Z179 d1 d2 d4 d6 d7 Z179 v9 Z9 h
                                refine pG_many 2 (pc1 := 514) (L1 := [some (.ref 0), d1, d2, some (.int x3_Z179), d4, some (.int x5_Z179), d6, d7]) (st1 := [.int 11, .ref 0]) (M1 := mjTo Z179) (fun _ _ => rfl) ?_
                                cases hq180 : f154_about 11 Z179 with
                                | none => rw [hq180] at h; cases h
                                | some v181 =>
                                  rw [hq180, mjBp_some] at h
                                  refine pG_callV (k2 := 140) (As := [.ref 0, .int 11]) (rest := []) rfl rfl rfl rfl rfl (by rfl) (by decide) (by decide) (f154_about_ok hq180) ?_
                                  rintro r9 M9 ⟨rfl, rfl⟩
                                  show pG 201 517 [some (.ref 0), d1, d2, some (.int x3_Z179), d4, some (.int x5_Z179), d6, d7] [.int v181] (mjTo Z179) _
                                  refine pG_many 1 (pc1 := 519) (L1 := [some (.ref 0), d1, d2, some (.int x3_Z179), d4, some (.int x5_Z179), d6, d7]) (st1 := [.int x5_Z179, .int v181]) (M1 := mjTo Z179) (fun _ _ => rfl) ?_
                                  by_cases hc183 : mjCmp .eq v181 x5_Z179 = true
                                  · rw [if_pos hc183] at h
                                    refine pG_cmt (t := 524) rfl rfl hc183 ?_
                                    refine pG_many 2 (pc1 := 362) (L1 := [some (.ref 0), d1, (mjK1 d2), some (.int (x3_Z179 + 1)), d4, some (.int x5_Z179), d6, d7]) (st1 := []) (M1 := mjTo Z179) (fun _ _ => rfl) ?_
                                    exact f701_judged_h362_ok n (x3_Z179 + 1) d1 ((mjK1 d2)) d4 (some (.int x5_Z179)) d6 d7 Z179 v9 Z9 h
                                  · rw [if_neg hc183] at h
                                    refine pG_cmf (t := 524) rfl rfl hc183 ?_
                                    refine pG_many 1 (pc1 := 523) (L1 := [some (.ref 0), d1, d2, some (.int x3_Z179), d4, some (.int x5_Z179), d6, d7]) (st1 := [.int 0]) (M1 := mjTo Z179) (fun _ _ => rfl) ?_
                                    simp only [Option.some.injEq, Prod.mk.injEq] at h
                                    obtain ⟨rfl, rfl⟩ := h
                                    exact pG_ret (r := some (.int 0)) rfl ⟨rfl, rfl⟩
                              · rw [if_neg hc173] at h
                                refine pG_iff (t := 491) rfl rfl hc173 ?_
                                refine pG_many 1 (pc1 := 490) (L1 := [some (.ref 0), d1, d2, some (.int x3_Z169), d4, some (.int x5_Z169), some (.int x6_Z169), d7]) (st1 := [.int 0]) (M1 := mjTo Z169) (fun _ _ => rfl) ?_
                                simp only [Option.some.injEq, Prod.mk.injEq] at h
                                obtain ⟨rfl, rfl⟩ := h
                                exact pG_ret (r := some (.int 0)) rfl ⟨rfl, rfl⟩
                          · rw [if_neg hc159] at h
                            refine pG_cmf (t := 429) rfl rfl hc159 ?_
                            refine pG_many 3 (pc1 := 362) (L1 := [some (.ref 0), d1, (mjK1 d2), some (.int (x3 + 1)), some (.int v142), some (.int v153), d6, d7]) (st1 := []) (M1 := mjTo Z150) (fun _ _ => rfl) ?_
                            exact f701_judged_h362_ok n (x3 + 1) d1 ((mjK1 d2)) (some (.int v142)) (some (.int v153)) d6 d7 Z150 v9 Z9 h
                  · rw [if_neg hc151] at h
                    refine pG_cmf (t := 403) rfl rfl hc151 ?_
                    refine pG_many 1 (pc1 := 402) (L1 := [some (.ref 0), d1, d2, some (.int x3), some (.int v142), d5, d6, d7]) (st1 := [.int 0]) (M1 := mjTo Z150) (fun _ _ => rfl) ?_
                    simp only [Option.some.injEq, Prod.mk.injEq] at h
                    obtain ⟨rfl, rfl⟩ := h
                    exact pG_ret (r := some (.int 0)) rfl ⟨rfl, rfl⟩
            · rw [if_neg hc144] at h
              refine pG_iff (t := 387) rfl rfl hc144 ?_
              refine pG_many 3 (pc1 := 362) (L1 := [some (.ref 0), d1, (mjK1 d2), some (.int (x3 + 1)), some (.int v142), d5, d6, d7]) (st1 := []) (M1 := mjTo Z143) (fun _ _ => rfl) ?_
              exact f701_judged_h362_ok n (x3 + 1) d1 ((mjK1 d2)) (some (.int v142)) d5 d6 d7 Z143 v9 Z9 h
def f701_judged_h210 : Nat → Int32 → Int32 → mjZt → Option (Int32 × mjZt)
  | 0, _, _, _ => none
  | n + 1, x2, x3, Z =>
    mjBp (f181_result x3 Z) fun v109 =>
    if mjCmp .lt v109 0 = true then
      mjBp (f182_who 1 Z) fun v113 =>
      if mjCmp .ne (v113 &&& (x2 ^^^ ((-1)))) 0 = true then
        some (0, Z)
      else
        mjBp (f182_who 3 Z) fun v117 =>
        if mjCmp .ne (v117 &&& v113) 0 = true then
          some (0, Z)
        else
          mjBp (f182_who 2 Z) fun v127 =>
          if mjCmp .ne (v117 &&& ((x2 &&& v127) ^^^ ((-1)))) 0 = true then
            some (0, Z)
          else
            mjBp (f182_who 4 Z) fun v131 =>
            mjBp (f182_who 0 Z) fun v134 =>
            if mjCmp .eq x2 (v131 &&& (v134 ^^^ ((-1)))) = true then
              f701_judged_h362 mjF 0 Z
            else
              some (0, Z)
    else
      mjBp (f156_team v109 3 Z) fun v188 =>
      if mjCmp .ne v188 1 = true then
        some (0, Z)
      else
        mjBp (f179_struck v109 2 Z) fun v192 =>
        if mjCmp .ne v192 0 = true then
          some (0, Z)
        else
          mjBd (f189_stays v109 0 Z) fun v196 Z197 =>
          if mjCmp .ne v196 0 = true then
            some (0, Z197)
          else
            if mjCmp .le x3 0 = true then
              f701_judged_h210 n (x2 ||| ((1 : Int32) <<< ((v109 : Int32) &&& 31))) (x3 + 1) Z197
            else
              mjBp (f181_result (x3 - 1) Z197) fun v201 =>
              mjBp (f156_team v201 2 Z197) fun v204 =>
              mjBp (f156_team v109 2 Z197) fun v207 =>
              if mjCmp .le v204 v207 = true then
                f701_judged_h210 n (x2 ||| ((1 : Int32) <<< ((v109 : Int32) &&& 31))) (x3 + 1) Z197
              else
                some (0, Z197)
set_option maxRecDepth 100000 in
theorem f701_judged_h210_ok : ∀ (n : Nat) (x2 : Int32) (x3 : Int32) (d1 d4 d5 d6 d7 : Option Value) (Z : mjZt) (v9 : Int32) (Z9 : mjZt), f701_judged_h210 n x2 x3 Z = some (v9, Z9) → pG 201 210 [some (.ref 0), d1, some (.int x2), some (.int x3), d4, d5, d6, d7] [] (mjTo Z) (fun r M1 => r = some (.int v9) ∧ M1 = mjTo Z9)
  | 0, x2, x3, d1, d4, d5, d6, d7, Z, v9, Z9, h => by rw [f701_judged_h210] at h; cases h
  | n + 1, x2, x3, d1, d4, d5, d6, d7, Z, v9, Z9, h => by
      rw [f701_judged_h210] at h
      refine pG_many 2 (pc1 := 212) (L1 := [some (.ref 0), d1, some (.int x2), some (.int x3), d4, d5, d6, d7]) (st1 := [.int x3, .ref 0]) (M1 := mjTo Z) (fun _ _ => rfl) ?_
      cases hq108 : f181_result x3 Z with
      | none => rw [hq108] at h; cases h
      | some v109 =>
        rw [hq108, mjBp_some] at h
        refine pG_callV (k2 := 157) (As := [.ref 0, .int x3]) (rest := []) rfl rfl rfl rfl rfl (by rfl) (by decide) (by decide) (f181_result_ok hq108) ?_
        rintro r9 M9 ⟨rfl, rfl⟩
        show pG 201 215 [some (.ref 0), d1, some (.int x2), some (.int x3), d4, d5, d6, d7] [.int v109] (mjTo Z) _
        by_cases hc111 : mjCmp .lt v109 0 = true
        · rw [if_pos hc111] at h
          refine pG_ift (t := 297) rfl rfl hc111 ?_
          refine pG_many 2 (pc1 := 299) (L1 := [some (.ref 0), d1, some (.int x2), some (.int x3), d4, d5, d6, d7]) (st1 := [.int 1, .ref 0]) (M1 := mjTo Z) (fun _ _ => rfl) ?_
          cases hq112 : f182_who 1 Z with
          | none => rw [hq112] at h; cases h
          | some v113 =>
            rw [hq112, mjBp_some] at h
            refine pG_callV (k2 := 158) (As := [.ref 0, .int 1]) (rest := []) rfl rfl rfl rfl rfl (by rfl) (by decide) (by decide) (f182_who_ok hq112) ?_
            rintro r9 M9 ⟨rfl, rfl⟩
            show pG 201 302 [some (.ref 0), d1, some (.int x2), some (.int x3), d4, d5, d6, d7] [.int v113] (mjTo Z) _
            refine pG_many 4 (pc1 := 306) (L1 := [some (.ref 0), d1, some (.int x2), some (.int x3), d4, d5, d6, d7]) (st1 := [.int (v113 &&& (x2 ^^^ ((-1))))]) (M1 := mjTo Z) (fun _ _ => rfl) ?_
            by_cases hc115 : mjCmp .ne (v113 &&& (x2 ^^^ ((-1)))) 0 = true
            · rw [if_pos hc115] at h
              refine pG_ift (t := 358) rfl rfl hc115 ?_
              refine pG_many 1 (pc1 := 359) (L1 := [some (.ref 0), d1, some (.int x2), some (.int x3), d4, d5, d6, d7]) (st1 := [.int 0]) (M1 := mjTo Z) (fun _ _ => rfl) ?_
              simp only [Option.some.injEq, Prod.mk.injEq] at h
              obtain ⟨rfl, rfl⟩ := h
              exact pG_ret (r := some (.int 0)) rfl ⟨rfl, rfl⟩
            · rw [if_neg hc115] at h
              refine pG_iff (t := 358) rfl rfl hc115 ?_
              refine pG_many 2 (pc1 := 311) (L1 := [some (.ref 0), d1, some (.int x2), some (.int x3), d4, d5, d6, d7]) (st1 := [.int 3, .ref 0]) (M1 := mjTo Z) (fun _ _ => rfl) ?_
              cases hq116 : f182_who 3 Z with
              | none => rw [hq116] at h; cases h
              | some v117 =>
                rw [hq116, mjBp_some] at h
                refine pG_callV (k2 := 158) (As := [.ref 0, .int 3]) (rest := []) rfl rfl rfl rfl rfl (by rfl) (by decide) (by decide) (f182_who_ok hq116) ?_
                rintro r9 M9 ⟨rfl, rfl⟩
                show pG 201 314 [some (.ref 0), d1, some (.int x2), some (.int x3), d4, d5, d6, d7] [.int v117] (mjTo Z) _
                refine pG_many 2 (pc1 := 316) (L1 := [some (.ref 0), d1, some (.int x2), some (.int x3), d4, d5, d6, d7]) (st1 := [.int 1, .ref 0, .int v117]) (M1 := mjTo Z) (fun _ _ => rfl) ?_
                refine pG_callV (k2 := 158) (As := [.ref 0, .int 1]) (rest := [.int v117]) rfl rfl rfl rfl rfl (by rfl) (by decide) (by decide) (f182_who_ok hq112) ?_
                rintro r9 M9 ⟨rfl, rfl⟩
                show pG 201 319 [some (.ref 0), d1, some (.int x2), some (.int x3), d4, d5, d6, d7] [.int v113, .int v117] (mjTo Z) _
                refine pG_many 1 (pc1 := 320) (L1 := [some (.ref 0), d1, some (.int x2), some (.int x3), d4, d5, d6, d7]) (st1 := [.int (v117 &&& v113)]) (M1 := mjTo Z) (fun _ _ => rfl) ?_
                by_cases hc122 : mjCmp .ne (v117 &&& v113) 0 = true
                · rw [if_pos hc122] at h
                  refine pG_ift (t := 358) rfl rfl hc122 ?_
                  refine pG_many 1 (pc1 := 359) (L1 := [some (.ref 0), d1, some (.int x2), some (.int x3), d4, d5, d6, d7]) (st1 := [.int 0]) (M1 := mjTo Z) (fun _ _ => rfl) ?_
                  simp only [Option.some.injEq, Prod.mk.injEq] at h
                  obtain ⟨rfl, rfl⟩ := h
                  exact pG_ret (r := some (.int 0)) rfl ⟨rfl, rfl⟩
                · rw [if_neg hc122] at h
                  refine pG_iff (t := 358) rfl rfl hc122 ?_
                  refine pG_many 2 (pc1 := 325) (L1 := [some (.ref 0), d1, some (.int x2), some (.int x3), d4, d5, d6, d7]) (st1 := [.int 3, .ref 0]) (M1 := mjTo Z) (fun _ _ => rfl) ?_
                  refine pG_callV (k2 := 158) (As := [.ref 0, .int 3]) (rest := []) rfl rfl rfl rfl rfl (by rfl) (by decide) (by decide) (f182_who_ok hq116) ?_
                  rintro r9 M9 ⟨rfl, rfl⟩
                  show pG 201 328 [some (.ref 0), d1, some (.int x2), some (.int x3), d4, d5, d6, d7] [.int v117] (mjTo Z) _
                  refine pG_many 3 (pc1 := 331) (L1 := [some (.ref 0), d1, some (.int x2), some (.int x3), d4, d5, d6, d7]) (st1 := [.int 2, .ref 0, .int x2, .int v117]) (M1 := mjTo Z) (fun _ _ => rfl) ?_
                  cases hq126 : f182_who 2 Z with
                  | none => rw [hq126] at h; cases h
                  | some v127 =>
                    rw [hq126, mjBp_some] at h
                    refine pG_callV (k2 := 158) (As := [.ref 0, .int 2]) (rest := [.int x2, .int v117]) rfl rfl rfl rfl rfl (by rfl) (by decide) (by decide) (f182_who_ok hq126) ?_
                    rintro r9 M9 ⟨rfl, rfl⟩
                    show pG 201 334 [some (.ref 0), d1, some (.int x2), some (.int x3), d4, d5, d6, d7] [.int v127, .int x2, .int v117] (mjTo Z) _
                    refine pG_many 4 (pc1 := 338) (L1 := [some (.ref 0), d1, some (.int x2), some (.int x3), d4, d5, d6, d7]) (st1 := [.int (v117 &&& ((x2 &&& v127) ^^^ ((-1))))]) (M1 := mjTo Z) (fun _ _ => rfl) ?_
                    by_cases hc129 : mjCmp .ne (v117 &&& ((x2 &&& v127) ^^^ ((-1)))) 0 = true
                    · rw [if_pos hc129] at h
                      refine pG_ift (t := 358) rfl rfl hc129 ?_
                      refine pG_many 1 (pc1 := 359) (L1 := [some (.ref 0), d1, some (.int x2), some (.int x3), d4, d5, d6, d7]) (st1 := [.int 0]) (M1 := mjTo Z) (fun _ _ => rfl) ?_
                      simp only [Option.some.injEq, Prod.mk.injEq] at h
                      obtain ⟨rfl, rfl⟩ := h
                      exact pG_ret (r := some (.int 0)) rfl ⟨rfl, rfl⟩
                    · rw [if_neg hc129] at h
                      refine pG_iff (t := 358) rfl rfl hc129 ?_
                      refine pG_many 3 (pc1 := 344) (L1 := [some (.ref 0), d1, some (.int x2), some (.int x3), d4, d5, d6, d7]) (st1 := [.int 4, .ref 0, .int x2]) (M1 := mjTo Z) (fun _ _ => rfl) ?_
                      cases hq130 : f182_who 4 Z with
                      | none => rw [hq130] at h; cases h
                      | some v131 =>
                        rw [hq130, mjBp_some] at h
                        refine pG_callV (k2 := 158) (As := [.ref 0, .int 4]) (rest := [.int x2]) rfl rfl rfl rfl rfl (by rfl) (by decide) (by decide) (f182_who_ok hq130) ?_
                        rintro r9 M9 ⟨rfl, rfl⟩
                        show pG 201 347 [some (.ref 0), d1, some (.int x2), some (.int x3), d4, d5, d6, d7] [.int v131, .int x2] (mjTo Z) _
                        refine pG_many 2 (pc1 := 349) (L1 := [some (.ref 0), d1, some (.int x2), some (.int x3), d4, d5, d6, d7]) (st1 := [.int 0, .ref 0, .int v131, .int x2]) (M1 := mjTo Z) (fun _ _ => rfl) ?_
                        cases hq133 : f182_who 0 Z with
                        | none => rw [hq133] at h; cases h
                        | some v134 =>
                          rw [hq133, mjBp_some] at h
                          refine pG_callV (k2 := 158) (As := [.ref 0, .int 0]) (rest := [.int v131, .int x2]) rfl rfl rfl rfl rfl (by rfl) (by decide) (by decide) (f182_who_ok hq133) ?_
                          rintro r9 M9 ⟨rfl, rfl⟩
                          show pG 201 352 [some (.ref 0), d1, some (.int x2), some (.int x3), d4, d5, d6, d7] [.int v134, .int v131, .int x2] (mjTo Z) _
                          refine pG_many 3 (pc1 := 355) (L1 := [some (.ref 0), d1, some (.int x2), some (.int x3), d4, d5, d6, d7]) (st1 := [.int (v131 &&& (v134 ^^^ ((-1)))), .int x2]) (M1 := mjTo Z) (fun _ _ => rfl) ?_
                          by_cases hc136 : mjCmp .eq x2 (v131 &&& (v134 ^^^ ((-1)))) = true
                          · rw [if_pos hc136] at h
                            refine pG_cmt (t := 360) rfl rfl hc136 ?_
                            refine pG_many 2 (pc1 := 362) (L1 := [some (.ref 0), d1, some (.int x2), some (.int 0), d4, d5, d6, d7]) (st1 := []) (M1 := mjTo Z) (fun _ _ => rfl) ?_
                            exact f701_judged_h362_ok mjF 0 d1 (some (.int x2)) d4 d5 d6 d7 Z v9 Z9 h
                          · rw [if_neg hc136] at h
                            refine pG_cmf (t := 360) rfl rfl hc136 ?_
                            refine pG_many 1 (pc1 := 359) (L1 := [some (.ref 0), d1, some (.int x2), some (.int x3), d4, d5, d6, d7]) (st1 := [.int 0]) (M1 := mjTo Z) (fun _ _ => rfl) ?_
                            simp only [Option.some.injEq, Prod.mk.injEq] at h
                            obtain ⟨rfl, rfl⟩ := h
                            exact pG_ret (r := some (.int 0)) rfl ⟨rfl, rfl⟩
        · rw [if_neg hc111] at h
          refine pG_iff (t := 297) rfl rfl hc111 ?_
          refine pG_many 2 (pc1 := 220) (L1 := [some (.ref 0), d1, some (.int x2), some (.int x3), d4, d5, d6, d7]) (st1 := [.int x3, .ref 0]) (M1 := mjTo Z) (fun _ _ => rfl) ?_
          refine pG_callV (k2 := 157) (As := [.ref 0, .int x3]) (rest := []) rfl rfl rfl rfl rfl (by rfl) (by decide) (by decide) (f181_result_ok hq108) ?_
          rintro r9 M9 ⟨rfl, rfl⟩
          show pG 201 223 [some (.ref 0), d1, some (.int x2), some (.int x3), d4, d5, d6, d7] [.int v109] (mjTo Z) _
          refine pG_many 10 (pc1 := 236) (L1 := [some (.ref 0), (mjK1 d1), some (.int (x2 ||| ((1 : Int32) <<< ((v109 : Int32) &&& 31)))), some (.int x3), some (.int v109), d5, d6, d7]) (st1 := [.int 3, .int v109, .ref 0]) (M1 := mjTo Z) (fun _ _ => rfl) ?_
          cases hq187 : f156_team v109 3 Z with
          | none => rw [hq187] at h; cases h
          | some v188 =>
            rw [hq187, mjBp_some] at h
            refine pG_callV (k2 := 141) (As := [.ref 0, .int v109, .int 3]) (rest := []) rfl rfl rfl rfl rfl (by rfl) (by decide) (by decide) (f156_team_ok hq187) ?_
            rintro r9 M9 ⟨rfl, rfl⟩
            show pG 201 239 [some (.ref 0), (mjK1 d1), some (.int (x2 ||| ((1 : Int32) <<< ((v109 : Int32) &&& 31)))), some (.int x3), some (.int v109), d5, d6, d7] [.int v188] (mjTo Z) _
            refine pG_many 1 (pc1 := 240) (L1 := [some (.ref 0), (mjK1 d1), some (.int (x2 ||| ((1 : Int32) <<< ((v109 : Int32) &&& 31)))), some (.int x3), some (.int v109), d5, d6, d7]) (st1 := [.int 1, .int v188]) (M1 := mjTo Z) (fun _ _ => rfl) ?_
            by_cases hc190 : mjCmp .ne v188 1 = true
            · rw [if_pos hc190] at h
              refine pG_cmt (t := 289) rfl rfl hc190 ?_
              refine pG_many 1 (pc1 := 290) (L1 := [some (.ref 0), (mjK1 d1), some (.int (x2 ||| ((1 : Int32) <<< ((v109 : Int32) &&& 31)))), some (.int x3), some (.int v109), d5, d6, d7]) (st1 := [.int 0]) (M1 := mjTo Z) (fun _ _ => rfl) ?_
              simp only [Option.some.injEq, Prod.mk.injEq] at h
              obtain ⟨rfl, rfl⟩ := h
              exact pG_ret (r := some (.int 0)) rfl ⟨rfl, rfl⟩
            · rw [if_neg hc190] at h
              refine pG_cmf (t := 289) rfl rfl hc190 ?_
              refine pG_many 3 (pc1 := 247) (L1 := [some (.ref 0), (mjK1 d1), some (.int (x2 ||| ((1 : Int32) <<< ((v109 : Int32) &&& 31)))), some (.int x3), some (.int v109), d5, d6, d7]) (st1 := [.int 2, .int v109, .ref 0]) (M1 := mjTo Z) (fun _ _ => rfl) ?_
              cases hq191 : f179_struck v109 2 Z with
              | none => rw [hq191] at h; cases h
              | some v192 =>
                rw [hq191, mjBp_some] at h
                refine pG_callV (k2 := 155) (As := [.ref 0, .int v109, .int 2]) (rest := []) rfl rfl rfl rfl rfl (by rfl) (by decide) (by decide) (f179_struck_ok hq191) ?_
                rintro r9 M9 ⟨rfl, rfl⟩
                show pG 201 250 [some (.ref 0), (mjK1 d1), some (.int (x2 ||| ((1 : Int32) <<< ((v109 : Int32) &&& 31)))), some (.int x3), some (.int v109), d5, d6, d7] [.int v192] (mjTo Z) _
                by_cases hc194 : mjCmp .ne v192 0 = true
                · rw [if_pos hc194] at h
                  refine pG_ift (t := 289) rfl rfl hc194 ?_
                  refine pG_many 1 (pc1 := 290) (L1 := [some (.ref 0), (mjK1 d1), some (.int (x2 ||| ((1 : Int32) <<< ((v109 : Int32) &&& 31)))), some (.int x3), some (.int v109), d5, d6, d7]) (st1 := [.int 0]) (M1 := mjTo Z) (fun _ _ => rfl) ?_
                  simp only [Option.some.injEq, Prod.mk.injEq] at h
                  obtain ⟨rfl, rfl⟩ := h
                  exact pG_ret (r := some (.int 0)) rfl ⟨rfl, rfl⟩
                · rw [if_neg hc194] at h
                  refine pG_iff (t := 289) rfl rfl hc194 ?_
                  refine pG_many 3 (pc1 := 257) (L1 := [some (.ref 0), (mjK1 d1), some (.int (x2 ||| ((1 : Int32) <<< ((v109 : Int32) &&& 31)))), some (.int x3), some (.int v109), d5, d6, d7]) (st1 := [.int 0, .int v109, .ref 0]) (M1 := mjTo Z) (fun _ _ => rfl) ?_
                  cases hq195 : f189_stays v109 0 Z with
                  | none => rw [hq195] at h; cases h
                  | some w =>
                    obtain ⟨v196, Z197⟩ := w
                    rw [hq195, mjBd_some] at h
                    refine pG_callV (k2 := 161) (As := [.ref 0, .int v109, .int 0]) (rest := []) rfl rfl rfl rfl rfl (by rfl) (by decide) (by decide) (f189_stays_ok hq195) ?_
                    rintro r9 M9 ⟨rfl, rfl⟩
                    show pG 201 260 [some (.ref 0), (mjK1 d1), some (.int (x2 ||| ((1 : Int32) <<< ((v109 : Int32) &&& 31)))), some (.int x3), some (.int v109), d5, d6, d7] [.int v196] (mjTo Z197) _
                    by_cases hc198 : mjCmp .ne v196 0 = true
                    · rw [if_pos hc198] at h
                      refine pG_ift (t := 289) rfl rfl hc198 ?_
                      refine pG_many 1 (pc1 := 290) (L1 := [some (.ref 0), (mjK1 d1), some (.int (x2 ||| ((1 : Int32) <<< ((v109 : Int32) &&& 31)))), some (.int x3), some (.int v109), d5, d6, d7]) (st1 := [.int 0]) (M1 := mjTo Z197) (fun _ _ => rfl) ?_
                      simp only [Option.some.injEq, Prod.mk.injEq] at h
                      obtain ⟨rfl, rfl⟩ := h
                      exact pG_ret (r := some (.int 0)) rfl ⟨rfl, rfl⟩
                    · rw [if_neg hc198] at h
                      refine pG_iff (t := 289) rfl rfl hc198 ?_
                      refine pG_many 1 (pc1 := 264) (L1 := [some (.ref 0), (mjK1 d1), some (.int (x2 ||| ((1 : Int32) <<< ((v109 : Int32) &&& 31)))), some (.int x3), some (.int v109), d5, d6, d7]) (st1 := [.int x3]) (M1 := mjTo Z197) (fun _ _ => rfl) ?_
                      by_cases hc199 : mjCmp .le x3 0 = true
                      · rw [if_pos hc199] at h
                        refine pG_ift (t := 291) rfl rfl hc199 ?_
                        refine pG_many 2 (pc1 := 210) (L1 := [some (.ref 0), (mjK1 d1), some (.int (x2 ||| ((1 : Int32) <<< ((v109 : Int32) &&& 31)))), some (.int (x3 + 1)), some (.int v109), d5, d6, d7]) (st1 := []) (M1 := mjTo Z197) (fun _ _ => rfl) ?_
                        exact f701_judged_h210_ok n (x2 ||| ((1 : Int32) <<< ((v109 : Int32) &&& 31))) (x3 + 1) ((mjK1 d1)) (some (.int v109)) d5 d6 d7 Z197 v9 Z9 h
                      · rw [if_neg hc199] at h
                        refine pG_iff (t := 291) rfl rfl hc199 ?_
                        refine pG_many 5 (pc1 := 272) (L1 := [some (.ref 0), (mjK1 d1), some (.int (x2 ||| ((1 : Int32) <<< ((v109 : Int32) &&& 31)))), some (.int x3), some (.int v109), d5, d6, d7]) (st1 := [.int (x3 - 1), .ref 0, .ref 0]) (M1 := mjTo Z197) (fun _ _ => rfl) ?_
                        cases hq200 : f181_result (x3 - 1) Z197 with
                        | none => rw [hq200] at h; cases h
                        | some v201 =>
                          rw [hq200, mjBp_some] at h
                          refine pG_callV (k2 := 157) (As := [.ref 0, .int (x3 - 1)]) (rest := [.ref 0]) rfl rfl rfl rfl rfl (by rfl) (by decide) (by decide) (f181_result_ok hq200) ?_
                          rintro r9 M9 ⟨rfl, rfl⟩
                          show pG 201 275 [some (.ref 0), (mjK1 d1), some (.int (x2 ||| ((1 : Int32) <<< ((v109 : Int32) &&& 31)))), some (.int x3), some (.int v109), d5, d6, d7] [.int v201, .ref 0] (mjTo Z197) _
                          refine pG_many 1 (pc1 := 276) (L1 := [some (.ref 0), (mjK1 d1), some (.int (x2 ||| ((1 : Int32) <<< ((v109 : Int32) &&& 31)))), some (.int x3), some (.int v109), d5, d6, d7]) (st1 := [.int 2, .int v201, .ref 0]) (M1 := mjTo Z197) (fun _ _ => rfl) ?_
                          cases hq203 : f156_team v201 2 Z197 with
                          | none => rw [hq203] at h; cases h
                          | some v204 =>
                            rw [hq203, mjBp_some] at h
                            refine pG_callV (k2 := 141) (As := [.ref 0, .int v201, .int 2]) (rest := []) rfl rfl rfl rfl rfl (by rfl) (by decide) (by decide) (f156_team_ok hq203) ?_
                            rintro r9 M9 ⟨rfl, rfl⟩
                            show pG 201 279 [some (.ref 0), (mjK1 d1), some (.int (x2 ||| ((1 : Int32) <<< ((v109 : Int32) &&& 31)))), some (.int x3), some (.int v109), d5, d6, d7] [.int v204] (mjTo Z197) _
                            refine pG_many 3 (pc1 := 283) (L1 := [some (.ref 0), (mjK1 d1), some (.int (x2 ||| ((1 : Int32) <<< ((v109 : Int32) &&& 31)))), some (.int x3), some (.int v109), d5, d6, d7]) (st1 := [.int 2, .int v109, .ref 0, .int v204]) (M1 := mjTo Z197) (fun _ _ => rfl) ?_
                            cases hq206 : f156_team v109 2 Z197 with
                            | none => rw [hq206] at h; cases h
                            | some v207 =>
                              rw [hq206, mjBp_some] at h
                              refine pG_callV (k2 := 141) (As := [.ref 0, .int v109, .int 2]) (rest := [.int v204]) rfl rfl rfl rfl rfl (by rfl) (by decide) (by decide) (f156_team_ok hq206) ?_
                              rintro r9 M9 ⟨rfl, rfl⟩
                              show pG 201 286 [some (.ref 0), (mjK1 d1), some (.int (x2 ||| ((1 : Int32) <<< ((v109 : Int32) &&& 31)))), some (.int x3), some (.int v109), d5, d6, d7] [.int v207, .int v204] (mjTo Z197) _
                              by_cases hc209 : mjCmp .le v204 v207 = true
                              · rw [if_pos hc209] at h
                                refine pG_cmt (t := 291) rfl rfl hc209 ?_
                                refine pG_many 2 (pc1 := 210) (L1 := [some (.ref 0), (mjK1 d1), some (.int (x2 ||| ((1 : Int32) <<< ((v109 : Int32) &&& 31)))), some (.int (x3 + 1)), some (.int v109), d5, d6, d7]) (st1 := []) (M1 := mjTo Z197) (fun _ _ => rfl) ?_
                                exact f701_judged_h210_ok n (x2 ||| ((1 : Int32) <<< ((v109 : Int32) &&& 31))) (x3 + 1) ((mjK1 d1)) (some (.int v109)) d5 d6 d7 Z197 v9 Z9 h
                              · rw [if_neg hc209] at h
                                refine pG_cmf (t := 291) rfl rfl hc209 ?_
                                refine pG_many 1 (pc1 := 290) (L1 := [some (.ref 0), (mjK1 d1), some (.int (x2 ||| ((1 : Int32) <<< ((v109 : Int32) &&& 31)))), some (.int x3), some (.int v109), d5, d6, d7]) (st1 := [.int 0]) (M1 := mjTo Z197) (fun _ _ => rfl) ?_
                                simp only [Option.some.injEq, Prod.mk.injEq] at h
                                obtain ⟨rfl, rfl⟩ := h
                                exact pG_ret (r := some (.int 0)) rfl ⟨rfl, rfl⟩
def f701_judged_h106 (K : Int32 → Int32 → Int32 → Int32 → mjZt → Option (Int32 × mjZt)) : Nat → Int32 → Int32 → Int32 → Int32 → Int32 → mjZt → Option (Int32 × mjZt)
  | 0, _, _, _, _, _, _ => none
  | n + 1, x1, x2, x3, x4, x6, Z =>
    if mjCmp .ge x6 2 = true then
      K x1 x2 x3 x4 Z
    else
      mjBd (f175_why x4 x6 x2 ((-1)) Z) fun v218 Z219 =>
      if mjCmp .eq v218 ((-2000000)) = true then
        f701_judged_h106 K n x1 x2 x3 x4 (x6 + 1) Z219
      else
        if mjCmp .lt v218 1 = true then
          some (0, Z219)
        else
          mjBp (f172_rule x4 (1 + x6) Z219) fun v223 =>
          if mjCmp .le v218 v223 = true then
            f701_judged_h106 K n x1 x2 x3 x4 (x6 + 1) Z219
          else
            some (0, Z219)
set_option maxRecDepth 100000 in
theorem f701_judged_h106_ok (K : Int32 → Int32 → Int32 → Int32 → mjZt → Option (Int32 × mjZt)) (hK : ∀ (x1 : Int32) (x2 : Int32) (x3 : Int32) (x4 : Int32) (d5 d6 d7 : Option Value) (Z : mjZt) (v9 : Int32) (Z9 : mjZt), K x1 x2 x3 x4 Z = some (v9, Z9) → pG 201 160 [some (.ref 0), some (.int x1), some (.int x2), some (.int x3), some (.int x4), d5, d6, d7] [] (mjTo Z) (fun r M1 => r = some (.int v9) ∧ M1 = mjTo Z9)) : ∀ (n : Nat) (x1 : Int32) (x2 : Int32) (x3 : Int32) (x4 : Int32) (x6 : Int32) (d5 d7 : Option Value) (Z : mjZt) (v9 : Int32) (Z9 : mjZt), f701_judged_h106 K n x1 x2 x3 x4 x6 Z = some (v9, Z9) → pG 201 106 [some (.ref 0), some (.int x1), some (.int x2), some (.int x3), some (.int x4), d5, some (.int x6), d7] [] (mjTo Z) (fun r M1 => r = some (.int v9) ∧ M1 = mjTo Z9)
  | 0, x1, x2, x3, x4, x6, d5, d7, Z, v9, Z9, h => by rw [f701_judged_h106] at h; cases h
  | n + 1, x1, x2, x3, x4, x6, d5, d7, Z, v9, Z9, h => by
      rw [f701_judged_h106] at h
      refine pG_many 2 (pc1 := 109) (L1 := [some (.ref 0), some (.int x1), some (.int x2), some (.int x3), some (.int x4), d5, some (.int x6), d7]) (st1 := [.int 2, .int x6]) (M1 := mjTo Z) (fun _ _ => rfl) ?_
      by_cases hc216 : mjCmp .ge x6 2 = true
      · rw [if_pos hc216] at h
        refine pG_cmt (t := 160) rfl rfl hc216 ?_
        exact hK x1 x2 x3 x4 d5 (some (.int x6)) d7 Z v9 Z9 h
      · rw [if_neg hc216] at h
        refine pG_cmf (t := 160) rfl rfl hc216 ?_
        refine pG_many 5 (pc1 := 119) (L1 := [some (.ref 0), some (.int x1), some (.int x2), some (.int x3), some (.int x4), d5, some (.int x6), d7]) (st1 := [.int ((-1)), .int x2, .int x6, .int x4, .ref 0]) (M1 := mjTo Z) (fun _ _ => rfl) ?_
        cases hq217 : f175_why x4 x6 x2 ((-1)) Z with
        | none => rw [hq217] at h; cases h
        | some w =>
          obtain ⟨v218, Z219⟩ := w
          rw [hq217, mjBd_some] at h
          refine pG_callV (k2 := 153) (As := [.ref 0, .int x4, .int x6, .int x2, .int ((-1))]) (rest := []) rfl rfl rfl rfl rfl (by rfl) (by decide) (by decide) (f175_why_ok hq217) ?_
          rintro r9 M9 ⟨rfl, rfl⟩
          show pG 201 122 [some (.ref 0), some (.int x1), some (.int x2), some (.int x3), some (.int x4), d5, some (.int x6), d7] [.int v218] (mjTo Z219) _
          refine pG_many 3 (pc1 := 128) (L1 := [some (.ref 0), some (.int x1), some (.int x2), some (.int x3), some (.int x4), d5, some (.int x6), some (.int v218)]) (st1 := [.int ((-2000000)), .int v218]) (M1 := mjTo Z219) (fun _ _ => rfl) ?_
          by_cases hc220 : mjCmp .eq v218 ((-2000000)) = true
          · rw [if_pos hc220] at h
            refine pG_cmt (t := 154) rfl rfl hc220 ?_
            refine pG_many 2 (pc1 := 106) (L1 := [some (.ref 0), some (.int x1), some (.int x2), some (.int x3), some (.int x4), (mjK1 d5), some (.int (x6 + 1)), some (.int v218)]) (st1 := []) (M1 := mjTo Z219) (fun _ _ => rfl) ?_
            exact f701_judged_h106_ok K hK n x1 x2 x3 x4 (x6 + 1) ((mjK1 d5)) (some (.int v218)) Z219 v9 Z9 h
          · rw [if_neg hc220] at h
            refine pG_cmf (t := 154) rfl rfl hc220 ?_
            refine pG_many 2 (pc1 := 134) (L1 := [some (.ref 0), some (.int x1), some (.int x2), some (.int x3), some (.int x4), d5, some (.int x6), some (.int v218)]) (st1 := [.int 1, .int v218]) (M1 := mjTo Z219) (fun _ _ => rfl) ?_
            by_cases hc221 : mjCmp .lt v218 1 = true
            · rw [if_pos hc221] at h
              refine pG_cmt (t := 152) rfl rfl hc221 ?_
              refine pG_many 1 (pc1 := 153) (L1 := [some (.ref 0), some (.int x1), some (.int x2), some (.int x3), some (.int x4), d5, some (.int x6), some (.int v218)]) (st1 := [.int 0]) (M1 := mjTo Z219) (fun _ _ => rfl) ?_
              simp only [Option.some.injEq, Prod.mk.injEq] at h
              obtain ⟨rfl, rfl⟩ := h
              exact pG_ret (r := some (.int 0)) rfl ⟨rfl, rfl⟩
            · rw [if_neg hc221] at h
              refine pG_cmf (t := 152) rfl rfl hc221 ?_
              refine pG_many 6 (pc1 := 146) (L1 := [some (.ref 0), some (.int x1), some (.int x2), some (.int x3), some (.int x4), d5, some (.int x6), some (.int v218)]) (st1 := [.int (1 + x6), .int x4, .ref 0, .int v218]) (M1 := mjTo Z219) (fun _ _ => rfl) ?_
              cases hq222 : f172_rule x4 (1 + x6) Z219 with
              | none => rw [hq222] at h; cases h
              | some v223 =>
                rw [hq222, mjBp_some] at h
                refine pG_callV (k2 := 150) (As := [.ref 0, .int x4, .int (1 + x6)]) (rest := [.int v218]) rfl rfl rfl rfl rfl (by rfl) (by decide) (by decide) (f172_rule_ok hq222) ?_
                rintro r9 M9 ⟨rfl, rfl⟩
                show pG 201 149 [some (.ref 0), some (.int x1), some (.int x2), some (.int x3), some (.int x4), d5, some (.int x6), some (.int v218)] [.int v223, .int v218] (mjTo Z219) _
                by_cases hc225 : mjCmp .le v218 v223 = true
                · rw [if_pos hc225] at h
                  refine pG_cmt (t := 154) rfl rfl hc225 ?_
                  refine pG_many 2 (pc1 := 106) (L1 := [some (.ref 0), some (.int x1), some (.int x2), some (.int x3), some (.int x4), (mjK1 d5), some (.int (x6 + 1)), some (.int v218)]) (st1 := []) (M1 := mjTo Z219) (fun _ _ => rfl) ?_
                  exact f701_judged_h106_ok K hK n x1 x2 x3 x4 (x6 + 1) ((mjK1 d5)) (some (.int v218)) Z219 v9 Z9 h
                · rw [if_neg hc225] at h
                  refine pG_cmf (t := 154) rfl rfl hc225 ?_
                  refine pG_many 1 (pc1 := 153) (L1 := [some (.ref 0), some (.int x1), some (.int x2), some (.int x3), some (.int x4), d5, some (.int x6), some (.int v218)]) (st1 := [.int 0]) (M1 := mjTo Z219) (fun _ _ => rfl) ?_
                  simp only [Option.some.injEq, Prod.mk.injEq] at h
                  obtain ⟨rfl, rfl⟩ := h
                  exact pG_ret (r := some (.int 0)) rfl ⟨rfl, rfl⟩
def f701_judged_h24 (K : Int32 → Int32 → Int32 → mjZt → Option (Int32 × mjZt)) : Nat → Int32 → Int32 → Int32 → Int32 → mjZt → Option (Int32 × mjZt)
  | 0, _, _, _, _, _ => none
  | n + 1, x1, x2, x3, x4, Z =>
    if mjCmp .ge x4 x1 = true then
      K x1 x2 x3 Z
    else
      mjBp (f176_struckBy x2 x4 Z) fun v212 =>
      if mjCmp .ne x3 0 = true then
        if mjCmp .ne v212 1 = true then
          f701_judged_h106 (fun x1_Z226 x2_Z226 x3_Z226 x4_Z226 Z226 =>
            f701_judged_h24 K n x1_Z226 x2_Z226 x3_Z226 (x4_Z226 + 1) Z226
            ) mjF x1 x2 1 x4 0 Z
        else
          mjBp (f172_rule x4 0 Z) fun v228 =>
          mjBp (f170_act x2 0 Z) fun v231 =>
          if mjCmp .ne v228 v231 = true then
            some (0, Z)
          else
            mjBd (f174_holds x4 0 x2 Z) fun v235 Z236 =>
            if mjCmp .ne v235 1 = true then
              some (0, Z236)
            else
              mjBd (f174_holds x4 1 x2 Z236) fun v239 Z240 =>
              if mjCmp .ne v239 1 = true then
                f701_judged_h106 (fun x1_Z242 x2_Z242 x3_Z242 x4_Z242 Z242 =>
                  f701_judged_h24 K n x1_Z242 x2_Z242 x3_Z242 (x4_Z242 + 1) Z242
                  ) mjF x1 x2 1 x4 0 Z240
              else
                some (0, Z240)
      else
        if mjCmp .ne v212 1 = true then
          if mjCmp .ne v212 1 = true then
            f701_judged_h106 (fun x1_Z245 x2_Z245 x3_Z245 x4_Z245 Z245 =>
              f701_judged_h24 K n x1_Z245 x2_Z245 x3_Z245 (x4_Z245 + 1) Z245
              ) mjF x1 x2 0 x4 0 Z
          else
            mjBp (f172_rule x4 0 Z) fun v247 =>
            mjBp (f170_act x2 0 Z) fun v250 =>
            if mjCmp .ne v247 v250 = true then
              some (0, Z)
            else
              mjBd (f174_holds x4 0 x2 Z) fun v254 Z255 =>
              if mjCmp .ne v254 1 = true then
                some (0, Z255)
              else
                mjBd (f174_holds x4 1 x2 Z255) fun v258 Z259 =>
                if mjCmp .ne v258 1 = true then
                  f701_judged_h106 (fun x1_Z261 x2_Z261 x3_Z261 x4_Z261 Z261 =>
                    f701_judged_h24 K n x1_Z261 x2_Z261 x3_Z261 (x4_Z261 + 1) Z261
                    ) mjF x1 x2 0 x4 0 Z259
                else
                  some (0, Z259)
        else
          if mjCmp .ne v212 1 = true then
            f701_judged_h106 (fun x1_Z263 x2_Z263 x3_Z263 x4_Z263 Z263 =>
              f701_judged_h24 K n x1_Z263 x2_Z263 x3_Z263 (x4_Z263 + 1) Z263
              ) mjF x1 x2 1 x4 0 Z
          else
            mjBp (f172_rule x4 0 Z) fun v265 =>
            mjBp (f170_act x2 0 Z) fun v268 =>
            if mjCmp .ne v265 v268 = true then
              some (0, Z)
            else
              mjBd (f174_holds x4 0 x2 Z) fun v272 Z273 =>
              if mjCmp .ne v272 1 = true then
                some (0, Z273)
              else
                mjBd (f174_holds x4 1 x2 Z273) fun v276 Z277 =>
                if mjCmp .ne v276 1 = true then
                  f701_judged_h106 (fun x1_Z279 x2_Z279 x3_Z279 x4_Z279 Z279 =>
                    f701_judged_h24 K n x1_Z279 x2_Z279 x3_Z279 (x4_Z279 + 1) Z279
                    ) mjF x1 x2 1 x4 0 Z277
                else
                  some (0, Z277)
set_option maxRecDepth 100000 in
theorem f701_judged_h24_ok (K : Int32 → Int32 → Int32 → mjZt → Option (Int32 × mjZt)) (hK : ∀ (x1 : Int32) (x2 : Int32) (x3 : Int32) (d4 d5 d6 d7 : Option Value) (Z : mjZt) (v9 : Int32) (Z9 : mjZt), K x1 x2 x3 Z = some (v9, Z9) → pG 201 166 [some (.ref 0), some (.int x1), some (.int x2), some (.int x3), d4, d5, d6, d7] [] (mjTo Z) (fun r M1 => r = some (.int v9) ∧ M1 = mjTo Z9)) : ∀ (n : Nat) (x1 : Int32) (x2 : Int32) (x3 : Int32) (x4 : Int32) (d5 d6 d7 : Option Value) (Z : mjZt) (v9 : Int32) (Z9 : mjZt), f701_judged_h24 K n x1 x2 x3 x4 Z = some (v9, Z9) → pG 201 24 [some (.ref 0), some (.int x1), some (.int x2), some (.int x3), some (.int x4), d5, d6, d7] [] (mjTo Z) (fun r M1 => r = some (.int v9) ∧ M1 = mjTo Z9)
  | 0, x1, x2, x3, x4, d5, d6, d7, Z, v9, Z9, h => by rw [f701_judged_h24] at h; cases h
  | n + 1, x1, x2, x3, x4, d5, d6, d7, Z, v9, Z9, h => by
      rw [f701_judged_h24] at h
      refine pG_many 2 (pc1 := 27) (L1 := [some (.ref 0), some (.int x1), some (.int x2), some (.int x3), some (.int x4), d5, d6, d7]) (st1 := [.int x1, .int x4]) (M1 := mjTo Z) (fun _ _ => rfl) ?_
      by_cases hc210 : mjCmp .ge x4 x1 = true
      · rw [if_pos hc210] at h
        refine pG_cmt (t := 166) rfl rfl hc210 ?_
        exact hK x1 x2 x3 (some (.int x4)) d5 d6 d7 Z v9 Z9 h
      · rw [if_neg hc210] at h
        refine pG_cmf (t := 166) rfl rfl hc210 ?_
        refine pG_many 3 (pc1 := 34) (L1 := [some (.ref 0), some (.int x1), some (.int x2), some (.int x3), some (.int x4), d5, d6, d7]) (st1 := [.int x4, .int x2, .ref 0]) (M1 := mjTo Z) (fun _ _ => rfl) ?_
        cases hq211 : f176_struckBy x2 x4 Z with
        | none => rw [hq211] at h; cases h
        | some v212 =>
          rw [hq211, mjBp_some] at h
          refine pG_callV (k2 := 154) (As := [.ref 0, .int x2, .int x4]) (rest := []) rfl rfl rfl rfl rfl (by rfl) (by decide) (by decide) (f176_struckBy_ok hq211) ?_
          rintro r9 M9 ⟨rfl, rfl⟩
          show pG 201 37 [some (.ref 0), some (.int x1), some (.int x2), some (.int x3), some (.int x4), d5, d6, d7] [.int v212] (mjTo Z) _
          refine pG_many 2 (pc1 := 40) (L1 := [some (.ref 0), some (.int x1), some (.int x2), some (.int x3), some (.int x4), some (.int v212), d6, d7]) (st1 := [.int x3]) (M1 := mjTo Z) (fun _ _ => rfl) ?_
          by_cases hc214 : mjCmp .ne x3 0 = true
          · rw [if_pos hc214] at h
            refine pG_ift (t := 49) rfl rfl hc214 ?_
            refine pG_many 5 (pc1 := 58) (L1 := [some (.ref 0), some (.int x1), some (.int x2), some (.int 1), some (.int x4), some (.int v212), d6, d7]) (st1 := [.int 1, .int v212]) (M1 := mjTo Z) (fun _ _ => rfl) ?_
            by_cases hc215 : mjCmp .ne v212 1 = true
            · rw [if_pos hc215] at h
              refine pG_cmt (t := 103) rfl rfl hc215 ?_
              refine pG_many 2 (pc1 := 106) (L1 := [some (.ref 0), some (.int x1), some (.int x2), some (.int 1), some (.int x4), some (.int v212), some (.int 0), d7]) (st1 := []) (M1 := mjTo Z) (fun _ _ => rfl) ?_
              refine f701_judged_h106_ok _ ?_ mjF x1 x2 1 x4 0 (some (.int v212)) d7 Z v9 Z9 h
              clear h
              intro x1_Z226 x2_Z226 x3_Z226 x4_Z226 d5 d6 d7 Z226 v9 Z9 h
              refine pG_many 2 (pc1 := 24) (L1 := [some (.ref 0), some (.int x1_Z226), some (.int x2_Z226), some (.int x3_Z226), some (.int (x4_Z226 + 1)), d5, d6, d7]) (st1 := []) (M1 := mjTo Z226) (fun _ _ => rfl) ?_
              exact f701_judged_h24_ok K hK n x1_Z226 x2_Z226 x3_Z226 (x4_Z226 + 1) d5 d6 d7 Z226 v9 Z9 h
            · rw [if_neg hc215] at h
              refine pG_cmf (t := 103) rfl rfl hc215 ?_
              refine pG_many 3 (pc1 := 65) (L1 := [some (.ref 0), some (.int x1), some (.int x2), some (.int 1), some (.int x4), some (.int v212), d6, d7]) (st1 := [.int 0, .int x4, .ref 0]) (M1 := mjTo Z) (fun _ _ => rfl) ?_
              cases hq227 : f172_rule x4 0 Z with
              | none => rw [hq227] at h; cases h
              | some v228 =>
                rw [hq227, mjBp_some] at h
                refine pG_callV (k2 := 150) (As := [.ref 0, .int x4, .int 0]) (rest := []) rfl rfl rfl rfl rfl (by rfl) (by decide) (by decide) (f172_rule_ok hq227) ?_
                rintro r9 M9 ⟨rfl, rfl⟩
                show pG 201 68 [some (.ref 0), some (.int x1), some (.int x2), some (.int 1), some (.int x4), some (.int v212), d6, d7] [.int v228] (mjTo Z) _
                refine pG_many 3 (pc1 := 71) (L1 := [some (.ref 0), some (.int x1), some (.int x2), some (.int 1), some (.int x4), some (.int v212), d6, d7]) (st1 := [.int 0, .int x2, .ref 0, .int v228]) (M1 := mjTo Z) (fun _ _ => rfl) ?_
                cases hq230 : f170_act x2 0 Z with
                | none => rw [hq230] at h; cases h
                | some v231 =>
                  rw [hq230, mjBp_some] at h
                  refine pG_callV (k2 := 149) (As := [.ref 0, .int x2, .int 0]) (rest := [.int v228]) rfl rfl rfl rfl rfl (by rfl) (by decide) (by decide) (f170_act_ok hq230) ?_
                  rintro r9 M9 ⟨rfl, rfl⟩
                  show pG 201 74 [some (.ref 0), some (.int x1), some (.int x2), some (.int 1), some (.int x4), some (.int v212), d6, d7] [.int v231, .int v228] (mjTo Z) _
                  by_cases hc233 : mjCmp .ne v228 v231 = true
                  · rw [if_pos hc233] at h
                    refine pG_cmt (t := 101) rfl rfl hc233 ?_
                    refine pG_many 1 (pc1 := 102) (L1 := [some (.ref 0), some (.int x1), some (.int x2), some (.int 1), some (.int x4), some (.int v212), d6, d7]) (st1 := [.int 0]) (M1 := mjTo Z) (fun _ _ => rfl) ?_
                    simp only [Option.some.injEq, Prod.mk.injEq] at h
                    obtain ⟨rfl, rfl⟩ := h
                    exact pG_ret (r := some (.int 0)) rfl ⟨rfl, rfl⟩
                  · rw [if_neg hc233] at h
                    refine pG_cmf (t := 101) rfl rfl hc233 ?_
                    refine pG_many 4 (pc1 := 82) (L1 := [some (.ref 0), some (.int x1), some (.int x2), some (.int 1), some (.int x4), some (.int v212), d6, d7]) (st1 := [.int x2, .int 0, .int x4, .ref 0]) (M1 := mjTo Z) (fun _ _ => rfl) ?_
                    cases hq234 : f174_holds x4 0 x2 Z with
                    | none => rw [hq234] at h; cases h
                    | some w =>
                      obtain ⟨v235, Z236⟩ := w
                      rw [hq234, mjBd_some] at h
                      refine pG_callV (k2 := 152) (As := [.ref 0, .int x4, .int 0, .int x2]) (rest := []) rfl rfl rfl rfl rfl (by rfl) (by decide) (by decide) (f174_holds_ok hq234) ?_
                      rintro r9 M9 ⟨rfl, rfl⟩
                      show pG 201 85 [some (.ref 0), some (.int x1), some (.int x2), some (.int 1), some (.int x4), some (.int v212), d6, d7] [.int v235] (mjTo Z236) _
                      refine pG_many 1 (pc1 := 86) (L1 := [some (.ref 0), some (.int x1), some (.int x2), some (.int 1), some (.int x4), some (.int v212), d6, d7]) (st1 := [.int 1, .int v235]) (M1 := mjTo Z236) (fun _ _ => rfl) ?_
                      by_cases hc237 : mjCmp .ne v235 1 = true
                      · rw [if_pos hc237] at h
                        refine pG_cmt (t := 101) rfl rfl hc237 ?_
                        refine pG_many 1 (pc1 := 102) (L1 := [some (.ref 0), some (.int x1), some (.int x2), some (.int 1), some (.int x4), some (.int v212), d6, d7]) (st1 := [.int 0]) (M1 := mjTo Z236) (fun _ _ => rfl) ?_
                        simp only [Option.some.injEq, Prod.mk.injEq] at h
                        obtain ⟨rfl, rfl⟩ := h
                        exact pG_ret (r := some (.int 0)) rfl ⟨rfl, rfl⟩
                      · rw [if_neg hc237] at h
                        refine pG_cmf (t := 101) rfl rfl hc237 ?_
                        refine pG_many 4 (pc1 := 94) (L1 := [some (.ref 0), some (.int x1), some (.int x2), some (.int 1), some (.int x4), some (.int v212), d6, d7]) (st1 := [.int x2, .int 1, .int x4, .ref 0]) (M1 := mjTo Z236) (fun _ _ => rfl) ?_
                        cases hq238 : f174_holds x4 1 x2 Z236 with
                        | none => rw [hq238] at h; cases h
                        | some w =>
                          obtain ⟨v239, Z240⟩ := w
                          rw [hq238, mjBd_some] at h
                          refine pG_callV (k2 := 152) (As := [.ref 0, .int x4, .int 1, .int x2]) (rest := []) rfl rfl rfl rfl rfl (by rfl) (by decide) (by decide) (f174_holds_ok hq238) ?_
                          rintro r9 M9 ⟨rfl, rfl⟩
                          show pG 201 97 [some (.ref 0), some (.int x1), some (.int x2), some (.int 1), some (.int x4), some (.int v212), d6, d7] [.int v239] (mjTo Z240) _
                          refine pG_many 1 (pc1 := 98) (L1 := [some (.ref 0), some (.int x1), some (.int x2), some (.int 1), some (.int x4), some (.int v212), d6, d7]) (st1 := [.int 1, .int v239]) (M1 := mjTo Z240) (fun _ _ => rfl) ?_
                          by_cases hc241 : mjCmp .ne v239 1 = true
                          · rw [if_pos hc241] at h
                            refine pG_cmt (t := 103) rfl rfl hc241 ?_
                            refine pG_many 2 (pc1 := 106) (L1 := [some (.ref 0), some (.int x1), some (.int x2), some (.int 1), some (.int x4), some (.int v212), some (.int 0), d7]) (st1 := []) (M1 := mjTo Z240) (fun _ _ => rfl) ?_
                            refine f701_judged_h106_ok _ ?_ mjF x1 x2 1 x4 0 (some (.int v212)) d7 Z240 v9 Z9 h
                            clear h
                            intro x1_Z242 x2_Z242 x3_Z242 x4_Z242 d5 d6 d7 Z242 v9 Z9 h
                            refine pG_many 2 (pc1 := 24) (L1 := [some (.ref 0), some (.int x1_Z242), some (.int x2_Z242), some (.int x3_Z242), some (.int (x4_Z242 + 1)), d5, d6, d7]) (st1 := []) (M1 := mjTo Z242) (fun _ _ => rfl) ?_
                            exact f701_judged_h24_ok K hK n x1_Z242 x2_Z242 x3_Z242 (x4_Z242 + 1) d5 d6 d7 Z242 v9 Z9 h
                          · rw [if_neg hc241] at h
                            refine pG_cmf (t := 103) rfl rfl hc241 ?_
                            refine pG_many 1 (pc1 := 102) (L1 := [some (.ref 0), some (.int x1), some (.int x2), some (.int 1), some (.int x4), some (.int v212), d6, d7]) (st1 := [.int 0]) (M1 := mjTo Z240) (fun _ _ => rfl) ?_
                            simp only [Option.some.injEq, Prod.mk.injEq] at h
                            obtain ⟨rfl, rfl⟩ := h
                            exact pG_ret (r := some (.int 0)) rfl ⟨rfl, rfl⟩
          · rw [if_neg hc214] at h
            refine pG_iff (t := 49) rfl rfl hc214 ?_
            refine pG_many 2 (pc1 := 46) (L1 := [some (.ref 0), some (.int x1), some (.int x2), some (.int x3), some (.int x4), some (.int v212), d6, d7]) (st1 := [.int 1, .int v212]) (M1 := mjTo Z) (fun _ _ => rfl) ?_
            by_cases hc243 : mjCmp .ne v212 1 = true
            · rw [if_pos hc243] at h
              refine pG_cmt (t := 53) rfl rfl hc243 ?_
              refine pG_many 4 (pc1 := 58) (L1 := [some (.ref 0), some (.int x1), some (.int x2), some (.int 0), some (.int x4), some (.int v212), d6, d7]) (st1 := [.int 1, .int v212]) (M1 := mjTo Z) (fun _ _ => rfl) ?_
              by_cases hc244 : mjCmp .ne v212 1 = true
              · rw [if_pos hc244] at h
                refine pG_cmt (t := 103) rfl rfl hc244 ?_
                refine pG_many 2 (pc1 := 106) (L1 := [some (.ref 0), some (.int x1), some (.int x2), some (.int 0), some (.int x4), some (.int v212), some (.int 0), d7]) (st1 := []) (M1 := mjTo Z) (fun _ _ => rfl) ?_
                refine f701_judged_h106_ok _ ?_ mjF x1 x2 0 x4 0 (some (.int v212)) d7 Z v9 Z9 h
                clear h
                intro x1_Z245 x2_Z245 x3_Z245 x4_Z245 d5 d6 d7 Z245 v9 Z9 h
                refine pG_many 2 (pc1 := 24) (L1 := [some (.ref 0), some (.int x1_Z245), some (.int x2_Z245), some (.int x3_Z245), some (.int (x4_Z245 + 1)), d5, d6, d7]) (st1 := []) (M1 := mjTo Z245) (fun _ _ => rfl) ?_
                exact f701_judged_h24_ok K hK n x1_Z245 x2_Z245 x3_Z245 (x4_Z245 + 1) d5 d6 d7 Z245 v9 Z9 h
              · rw [if_neg hc244] at h
                refine pG_cmf (t := 103) rfl rfl hc244 ?_
                refine pG_many 3 (pc1 := 65) (L1 := [some (.ref 0), some (.int x1), some (.int x2), some (.int 0), some (.int x4), some (.int v212), d6, d7]) (st1 := [.int 0, .int x4, .ref 0]) (M1 := mjTo Z) (fun _ _ => rfl) ?_
                cases hq246 : f172_rule x4 0 Z with
                | none => rw [hq246] at h; cases h
                | some v247 =>
                  rw [hq246, mjBp_some] at h
                  refine pG_callV (k2 := 150) (As := [.ref 0, .int x4, .int 0]) (rest := []) rfl rfl rfl rfl rfl (by rfl) (by decide) (by decide) (f172_rule_ok hq246) ?_
                  rintro r9 M9 ⟨rfl, rfl⟩
                  show pG 201 68 [some (.ref 0), some (.int x1), some (.int x2), some (.int 0), some (.int x4), some (.int v212), d6, d7] [.int v247] (mjTo Z) _
                  refine pG_many 3 (pc1 := 71) (L1 := [some (.ref 0), some (.int x1), some (.int x2), some (.int 0), some (.int x4), some (.int v212), d6, d7]) (st1 := [.int 0, .int x2, .ref 0, .int v247]) (M1 := mjTo Z) (fun _ _ => rfl) ?_
                  cases hq249 : f170_act x2 0 Z with
                  | none => rw [hq249] at h; cases h
                  | some v250 =>
                    rw [hq249, mjBp_some] at h
                    refine pG_callV (k2 := 149) (As := [.ref 0, .int x2, .int 0]) (rest := [.int v247]) rfl rfl rfl rfl rfl (by rfl) (by decide) (by decide) (f170_act_ok hq249) ?_
                    rintro r9 M9 ⟨rfl, rfl⟩
                    show pG 201 74 [some (.ref 0), some (.int x1), some (.int x2), some (.int 0), some (.int x4), some (.int v212), d6, d7] [.int v250, .int v247] (mjTo Z) _
                    by_cases hc252 : mjCmp .ne v247 v250 = true
                    · rw [if_pos hc252] at h
                      refine pG_cmt (t := 101) rfl rfl hc252 ?_
                      refine pG_many 1 (pc1 := 102) (L1 := [some (.ref 0), some (.int x1), some (.int x2), some (.int 0), some (.int x4), some (.int v212), d6, d7]) (st1 := [.int 0]) (M1 := mjTo Z) (fun _ _ => rfl) ?_
                      simp only [Option.some.injEq, Prod.mk.injEq] at h
                      obtain ⟨rfl, rfl⟩ := h
                      exact pG_ret (r := some (.int 0)) rfl ⟨rfl, rfl⟩
                    · rw [if_neg hc252] at h
                      refine pG_cmf (t := 101) rfl rfl hc252 ?_
                      refine pG_many 4 (pc1 := 82) (L1 := [some (.ref 0), some (.int x1), some (.int x2), some (.int 0), some (.int x4), some (.int v212), d6, d7]) (st1 := [.int x2, .int 0, .int x4, .ref 0]) (M1 := mjTo Z) (fun _ _ => rfl) ?_
                      cases hq253 : f174_holds x4 0 x2 Z with
                      | none => rw [hq253] at h; cases h
                      | some w =>
                        obtain ⟨v254, Z255⟩ := w
                        rw [hq253, mjBd_some] at h
                        refine pG_callV (k2 := 152) (As := [.ref 0, .int x4, .int 0, .int x2]) (rest := []) rfl rfl rfl rfl rfl (by rfl) (by decide) (by decide) (f174_holds_ok hq253) ?_
                        rintro r9 M9 ⟨rfl, rfl⟩
                        show pG 201 85 [some (.ref 0), some (.int x1), some (.int x2), some (.int 0), some (.int x4), some (.int v212), d6, d7] [.int v254] (mjTo Z255) _
                        refine pG_many 1 (pc1 := 86) (L1 := [some (.ref 0), some (.int x1), some (.int x2), some (.int 0), some (.int x4), some (.int v212), d6, d7]) (st1 := [.int 1, .int v254]) (M1 := mjTo Z255) (fun _ _ => rfl) ?_
                        by_cases hc256 : mjCmp .ne v254 1 = true
                        · rw [if_pos hc256] at h
                          refine pG_cmt (t := 101) rfl rfl hc256 ?_
                          refine pG_many 1 (pc1 := 102) (L1 := [some (.ref 0), some (.int x1), some (.int x2), some (.int 0), some (.int x4), some (.int v212), d6, d7]) (st1 := [.int 0]) (M1 := mjTo Z255) (fun _ _ => rfl) ?_
                          simp only [Option.some.injEq, Prod.mk.injEq] at h
                          obtain ⟨rfl, rfl⟩ := h
                          exact pG_ret (r := some (.int 0)) rfl ⟨rfl, rfl⟩
                        · rw [if_neg hc256] at h
                          refine pG_cmf (t := 101) rfl rfl hc256 ?_
                          refine pG_many 4 (pc1 := 94) (L1 := [some (.ref 0), some (.int x1), some (.int x2), some (.int 0), some (.int x4), some (.int v212), d6, d7]) (st1 := [.int x2, .int 1, .int x4, .ref 0]) (M1 := mjTo Z255) (fun _ _ => rfl) ?_
                          cases hq257 : f174_holds x4 1 x2 Z255 with
                          | none => rw [hq257] at h; cases h
                          | some w =>
                            obtain ⟨v258, Z259⟩ := w
                            rw [hq257, mjBd_some] at h
                            refine pG_callV (k2 := 152) (As := [.ref 0, .int x4, .int 1, .int x2]) (rest := []) rfl rfl rfl rfl rfl (by rfl) (by decide) (by decide) (f174_holds_ok hq257) ?_
                            rintro r9 M9 ⟨rfl, rfl⟩
                            show pG 201 97 [some (.ref 0), some (.int x1), some (.int x2), some (.int 0), some (.int x4), some (.int v212), d6, d7] [.int v258] (mjTo Z259) _
                            refine pG_many 1 (pc1 := 98) (L1 := [some (.ref 0), some (.int x1), some (.int x2), some (.int 0), some (.int x4), some (.int v212), d6, d7]) (st1 := [.int 1, .int v258]) (M1 := mjTo Z259) (fun _ _ => rfl) ?_
                            by_cases hc260 : mjCmp .ne v258 1 = true
                            · rw [if_pos hc260] at h
                              refine pG_cmt (t := 103) rfl rfl hc260 ?_
                              refine pG_many 2 (pc1 := 106) (L1 := [some (.ref 0), some (.int x1), some (.int x2), some (.int 0), some (.int x4), some (.int v212), some (.int 0), d7]) (st1 := []) (M1 := mjTo Z259) (fun _ _ => rfl) ?_
                              refine f701_judged_h106_ok _ ?_ mjF x1 x2 0 x4 0 (some (.int v212)) d7 Z259 v9 Z9 h
                              clear h
                              intro x1_Z261 x2_Z261 x3_Z261 x4_Z261 d5 d6 d7 Z261 v9 Z9 h
                              refine pG_many 2 (pc1 := 24) (L1 := [some (.ref 0), some (.int x1_Z261), some (.int x2_Z261), some (.int x3_Z261), some (.int (x4_Z261 + 1)), d5, d6, d7]) (st1 := []) (M1 := mjTo Z261) (fun _ _ => rfl) ?_
                              exact f701_judged_h24_ok K hK n x1_Z261 x2_Z261 x3_Z261 (x4_Z261 + 1) d5 d6 d7 Z261 v9 Z9 h
                            · rw [if_neg hc260] at h
                              refine pG_cmf (t := 103) rfl rfl hc260 ?_
                              refine pG_many 1 (pc1 := 102) (L1 := [some (.ref 0), some (.int x1), some (.int x2), some (.int 0), some (.int x4), some (.int v212), d6, d7]) (st1 := [.int 0]) (M1 := mjTo Z259) (fun _ _ => rfl) ?_
                              simp only [Option.some.injEq, Prod.mk.injEq] at h
                              obtain ⟨rfl, rfl⟩ := h
                              exact pG_ret (r := some (.int 0)) rfl ⟨rfl, rfl⟩
            · rw [if_neg hc243] at h
              refine pG_cmf (t := 53) rfl rfl hc243 ?_
              refine pG_many 5 (pc1 := 58) (L1 := [some (.ref 0), some (.int x1), some (.int x2), some (.int 1), some (.int x4), some (.int v212), d6, d7]) (st1 := [.int 1, .int v212]) (M1 := mjTo Z) (fun _ _ => rfl) ?_
              by_cases hc262 : mjCmp .ne v212 1 = true
              · rw [if_pos hc262] at h
                refine pG_cmt (t := 103) rfl rfl hc262 ?_
                refine pG_many 2 (pc1 := 106) (L1 := [some (.ref 0), some (.int x1), some (.int x2), some (.int 1), some (.int x4), some (.int v212), some (.int 0), d7]) (st1 := []) (M1 := mjTo Z) (fun _ _ => rfl) ?_
                refine f701_judged_h106_ok _ ?_ mjF x1 x2 1 x4 0 (some (.int v212)) d7 Z v9 Z9 h
                clear h
                intro x1_Z263 x2_Z263 x3_Z263 x4_Z263 d5 d6 d7 Z263 v9 Z9 h
                refine pG_many 2 (pc1 := 24) (L1 := [some (.ref 0), some (.int x1_Z263), some (.int x2_Z263), some (.int x3_Z263), some (.int (x4_Z263 + 1)), d5, d6, d7]) (st1 := []) (M1 := mjTo Z263) (fun _ _ => rfl) ?_
                exact f701_judged_h24_ok K hK n x1_Z263 x2_Z263 x3_Z263 (x4_Z263 + 1) d5 d6 d7 Z263 v9 Z9 h
              · rw [if_neg hc262] at h
                refine pG_cmf (t := 103) rfl rfl hc262 ?_
                refine pG_many 3 (pc1 := 65) (L1 := [some (.ref 0), some (.int x1), some (.int x2), some (.int 1), some (.int x4), some (.int v212), d6, d7]) (st1 := [.int 0, .int x4, .ref 0]) (M1 := mjTo Z) (fun _ _ => rfl) ?_
                cases hq264 : f172_rule x4 0 Z with
                | none => rw [hq264] at h; cases h
                | some v265 =>
                  rw [hq264, mjBp_some] at h
                  refine pG_callV (k2 := 150) (As := [.ref 0, .int x4, .int 0]) (rest := []) rfl rfl rfl rfl rfl (by rfl) (by decide) (by decide) (f172_rule_ok hq264) ?_
                  rintro r9 M9 ⟨rfl, rfl⟩
                  show pG 201 68 [some (.ref 0), some (.int x1), some (.int x2), some (.int 1), some (.int x4), some (.int v212), d6, d7] [.int v265] (mjTo Z) _
                  refine pG_many 3 (pc1 := 71) (L1 := [some (.ref 0), some (.int x1), some (.int x2), some (.int 1), some (.int x4), some (.int v212), d6, d7]) (st1 := [.int 0, .int x2, .ref 0, .int v265]) (M1 := mjTo Z) (fun _ _ => rfl) ?_
                  cases hq267 : f170_act x2 0 Z with
                  | none => rw [hq267] at h; cases h
                  | some v268 =>
                    rw [hq267, mjBp_some] at h
                    refine pG_callV (k2 := 149) (As := [.ref 0, .int x2, .int 0]) (rest := [.int v265]) rfl rfl rfl rfl rfl (by rfl) (by decide) (by decide) (f170_act_ok hq267) ?_
                    rintro r9 M9 ⟨rfl, rfl⟩
                    show pG 201 74 [some (.ref 0), some (.int x1), some (.int x2), some (.int 1), some (.int x4), some (.int v212), d6, d7] [.int v268, .int v265] (mjTo Z) _
                    by_cases hc270 : mjCmp .ne v265 v268 = true
                    · rw [if_pos hc270] at h
                      refine pG_cmt (t := 101) rfl rfl hc270 ?_
                      refine pG_many 1 (pc1 := 102) (L1 := [some (.ref 0), some (.int x1), some (.int x2), some (.int 1), some (.int x4), some (.int v212), d6, d7]) (st1 := [.int 0]) (M1 := mjTo Z) (fun _ _ => rfl) ?_
                      simp only [Option.some.injEq, Prod.mk.injEq] at h
                      obtain ⟨rfl, rfl⟩ := h
                      exact pG_ret (r := some (.int 0)) rfl ⟨rfl, rfl⟩
                    · rw [if_neg hc270] at h
                      refine pG_cmf (t := 101) rfl rfl hc270 ?_
                      refine pG_many 4 (pc1 := 82) (L1 := [some (.ref 0), some (.int x1), some (.int x2), some (.int 1), some (.int x4), some (.int v212), d6, d7]) (st1 := [.int x2, .int 0, .int x4, .ref 0]) (M1 := mjTo Z) (fun _ _ => rfl) ?_
                      cases hq271 : f174_holds x4 0 x2 Z with
                      | none => rw [hq271] at h; cases h
                      | some w =>
                        obtain ⟨v272, Z273⟩ := w
                        rw [hq271, mjBd_some] at h
                        refine pG_callV (k2 := 152) (As := [.ref 0, .int x4, .int 0, .int x2]) (rest := []) rfl rfl rfl rfl rfl (by rfl) (by decide) (by decide) (f174_holds_ok hq271) ?_
                        rintro r9 M9 ⟨rfl, rfl⟩
                        show pG 201 85 [some (.ref 0), some (.int x1), some (.int x2), some (.int 1), some (.int x4), some (.int v212), d6, d7] [.int v272] (mjTo Z273) _
                        refine pG_many 1 (pc1 := 86) (L1 := [some (.ref 0), some (.int x1), some (.int x2), some (.int 1), some (.int x4), some (.int v212), d6, d7]) (st1 := [.int 1, .int v272]) (M1 := mjTo Z273) (fun _ _ => rfl) ?_
                        by_cases hc274 : mjCmp .ne v272 1 = true
                        · rw [if_pos hc274] at h
                          refine pG_cmt (t := 101) rfl rfl hc274 ?_
                          refine pG_many 1 (pc1 := 102) (L1 := [some (.ref 0), some (.int x1), some (.int x2), some (.int 1), some (.int x4), some (.int v212), d6, d7]) (st1 := [.int 0]) (M1 := mjTo Z273) (fun _ _ => rfl) ?_
                          simp only [Option.some.injEq, Prod.mk.injEq] at h
                          obtain ⟨rfl, rfl⟩ := h
                          exact pG_ret (r := some (.int 0)) rfl ⟨rfl, rfl⟩
                        · rw [if_neg hc274] at h
                          refine pG_cmf (t := 101) rfl rfl hc274 ?_
                          refine pG_many 4 (pc1 := 94) (L1 := [some (.ref 0), some (.int x1), some (.int x2), some (.int 1), some (.int x4), some (.int v212), d6, d7]) (st1 := [.int x2, .int 1, .int x4, .ref 0]) (M1 := mjTo Z273) (fun _ _ => rfl) ?_
                          cases hq275 : f174_holds x4 1 x2 Z273 with
                          | none => rw [hq275] at h; cases h
                          | some w =>
                            obtain ⟨v276, Z277⟩ := w
                            rw [hq275, mjBd_some] at h
                            refine pG_callV (k2 := 152) (As := [.ref 0, .int x4, .int 1, .int x2]) (rest := []) rfl rfl rfl rfl rfl (by rfl) (by decide) (by decide) (f174_holds_ok hq275) ?_
                            rintro r9 M9 ⟨rfl, rfl⟩
                            show pG 201 97 [some (.ref 0), some (.int x1), some (.int x2), some (.int 1), some (.int x4), some (.int v212), d6, d7] [.int v276] (mjTo Z277) _
                            refine pG_many 1 (pc1 := 98) (L1 := [some (.ref 0), some (.int x1), some (.int x2), some (.int 1), some (.int x4), some (.int v212), d6, d7]) (st1 := [.int 1, .int v276]) (M1 := mjTo Z277) (fun _ _ => rfl) ?_
                            by_cases hc278 : mjCmp .ne v276 1 = true
                            · rw [if_pos hc278] at h
                              refine pG_cmt (t := 103) rfl rfl hc278 ?_
                              refine pG_many 2 (pc1 := 106) (L1 := [some (.ref 0), some (.int x1), some (.int x2), some (.int 1), some (.int x4), some (.int v212), some (.int 0), d7]) (st1 := []) (M1 := mjTo Z277) (fun _ _ => rfl) ?_
                              refine f701_judged_h106_ok _ ?_ mjF x1 x2 1 x4 0 (some (.int v212)) d7 Z277 v9 Z9 h
                              clear h
                              intro x1_Z279 x2_Z279 x3_Z279 x4_Z279 d5 d6 d7 Z279 v9 Z9 h
                              refine pG_many 2 (pc1 := 24) (L1 := [some (.ref 0), some (.int x1_Z279), some (.int x2_Z279), some (.int x3_Z279), some (.int (x4_Z279 + 1)), d5, d6, d7]) (st1 := []) (M1 := mjTo Z279) (fun _ _ => rfl) ?_
                              exact f701_judged_h24_ok K hK n x1_Z279 x2_Z279 x3_Z279 (x4_Z279 + 1) d5 d6 d7 Z279 v9 Z9 h
                            · rw [if_neg hc278] at h
                              refine pG_cmf (t := 103) rfl rfl hc278 ?_
                              refine pG_many 1 (pc1 := 102) (L1 := [some (.ref 0), some (.int x1), some (.int x2), some (.int 1), some (.int x4), some (.int v212), d6, d7]) (st1 := [.int 0]) (M1 := mjTo Z277) (fun _ _ => rfl) ?_
                              simp only [Option.some.injEq, Prod.mk.injEq] at h
                              obtain ⟨rfl, rfl⟩ := h
                              exact pG_ret (r := some (.int 0)) rfl ⟨rfl, rfl⟩
def f701_judged_h9 : Nat → Int32 → Int32 → mjZt → Option (Int32 × mjZt)
  | 0, _, _, _ => none
  | n + 1, x1, x2, Z =>
    mjBp (f154_about 6 Z) fun v105 =>
    if mjCmp .ge x2 v105 = true then
      f701_judged_h210 mjF 0 0 Z
    else
      f701_judged_h24 (fun x1_Z280 x2_Z280 x3_Z280 Z280 =>
        if mjCmp .eq x3_Z280 0 = true then
          f701_judged_h9 n x1_Z280 (x2_Z280 + 1) Z280
        else
          mjBp (f170_act x2_Z280 5 Z280) fun v283 =>
          if mjCmp .eq v283 1 = true then
            some (0, Z280)
          else
            mjBp (f182_who 0 Z280) fun v287 =>
            mjBp (f170_act x2_Z280 1 Z280) fun v290 =>
            if mjCmp .eq (((v287 : Int32) >>> ((v290 : Int32) &&& 31)) &&& 1) 1 = true then
              f701_judged_h9 n x1_Z280 (x2_Z280 + 1) Z280
            else
              some (0, Z280)
        ) mjF x1 x2 0 0 Z
set_option maxRecDepth 100000 in
theorem f701_judged_h9_ok : ∀ (n : Nat) (x1 : Int32) (x2 : Int32) (d3 d4 d5 d6 d7 : Option Value) (Z : mjZt) (v9 : Int32) (Z9 : mjZt), f701_judged_h9 n x1 x2 Z = some (v9, Z9) → pG 201 9 [some (.ref 0), some (.int x1), some (.int x2), d3, d4, d5, d6, d7] [] (mjTo Z) (fun r M1 => r = some (.int v9) ∧ M1 = mjTo Z9)
  | 0, x1, x2, d3, d4, d5, d6, d7, Z, v9, Z9, h => by rw [f701_judged_h9] at h; cases h
  | n + 1, x1, x2, d3, d4, d5, d6, d7, Z, v9, Z9, h => by
      rw [f701_judged_h9] at h
      refine pG_many 3 (pc1 := 13) (L1 := [some (.ref 0), some (.int x1), some (.int x2), d3, d4, d5, d6, d7]) (st1 := [.int 6, .ref 0, .int x2]) (M1 := mjTo Z) (fun _ _ => rfl) ?_
      cases hq104 : f154_about 6 Z with
      | none => rw [hq104] at h; cases h
      | some v105 =>
        rw [hq104, mjBp_some] at h
        refine pG_callV (k2 := 140) (As := [.ref 0, .int 6]) (rest := [.int x2]) rfl rfl rfl rfl rfl (by rfl) (by decide) (by decide) (f154_about_ok hq104) ?_
        rintro r9 M9 ⟨rfl, rfl⟩
        show pG 201 16 [some (.ref 0), some (.int x1), some (.int x2), d3, d4, d5, d6, d7] [.int v105, .int x2] (mjTo Z) _
        by_cases hc107 : mjCmp .ge x2 v105 = true
        · rw [if_pos hc107] at h
          refine pG_cmt (t := 206) rfl rfl hc107 ?_
          refine pG_many 4 (pc1 := 210) (L1 := [some (.ref 0), some (.int x1), some (.int 0), some (.int 0), d4, d5, d6, d7]) (st1 := []) (M1 := mjTo Z) (fun _ _ => rfl) ?_
          exact f701_judged_h210_ok mjF 0 0 (some (.int x1)) d4 d5 d6 d7 Z v9 Z9 h
        · rw [if_neg hc107] at h
          refine pG_cmf (t := 206) rfl rfl hc107 ?_
          refine pG_many 4 (pc1 := 24) (L1 := [some (.ref 0), some (.int x1), some (.int x2), some (.int 0), some (.int 0), d5, d6, d7]) (st1 := []) (M1 := mjTo Z) (fun _ _ => rfl) ?_
          refine f701_judged_h24_ok _ ?_ mjF x1 x2 0 0 d5 d6 d7 Z v9 Z9 h
          clear h
          intro x1_Z280 x2_Z280 x3_Z280 d4 d5 d6 d7 Z280 v9 Z9 h
          refine pG_many 1 (pc1 := 167) (L1 := [some (.ref 0), some (.int x1_Z280), some (.int x2_Z280), some (.int x3_Z280), d4, d5, d6, d7]) (st1 := [.int x3_Z280]) (M1 := mjTo Z280) (fun _ _ => rfl) ?_
          by_cases hc281 : mjCmp .eq x3_Z280 0 = true
          · rw [if_pos hc281] at h
            refine pG_ift (t := 200) rfl rfl hc281 ?_
            refine pG_many 2 (pc1 := 9) (L1 := [some (.ref 0), some (.int x1_Z280), some (.int (x2_Z280 + 1)), some (.int x3_Z280), d4, d5, d6, d7]) (st1 := []) (M1 := mjTo Z280) (fun _ _ => rfl) ?_
            exact f701_judged_h9_ok n x1_Z280 (x2_Z280 + 1) (some (.int x3_Z280)) d4 d5 d6 d7 Z280 v9 Z9 h
          · rw [if_neg hc281] at h
            refine pG_iff (t := 200) rfl rfl hc281 ?_
            refine pG_many 3 (pc1 := 173) (L1 := [some (.ref 0), some (.int x1_Z280), some (.int x2_Z280), some (.int x3_Z280), d4, d5, d6, d7]) (st1 := [.int 5, .int x2_Z280, .ref 0]) (M1 := mjTo Z280) (fun _ _ => rfl) ?_
            cases hq282 : f170_act x2_Z280 5 Z280 with
            | none => rw [hq282] at h; cases h
            | some v283 =>
              rw [hq282, mjBp_some] at h
              refine pG_callV (k2 := 149) (As := [.ref 0, .int x2_Z280, .int 5]) (rest := []) rfl rfl rfl rfl rfl (by rfl) (by decide) (by decide) (f170_act_ok hq282) ?_
              rintro r9 M9 ⟨rfl, rfl⟩
              show pG 201 176 [some (.ref 0), some (.int x1_Z280), some (.int x2_Z280), some (.int x3_Z280), d4, d5, d6, d7] [.int v283] (mjTo Z280) _
              refine pG_many 1 (pc1 := 177) (L1 := [some (.ref 0), some (.int x1_Z280), some (.int x2_Z280), some (.int x3_Z280), d4, d5, d6, d7]) (st1 := [.int 1, .int v283]) (M1 := mjTo Z280) (fun _ _ => rfl) ?_
              by_cases hc285 : mjCmp .eq v283 1 = true
              · rw [if_pos hc285] at h
                refine pG_cmt (t := 198) rfl rfl hc285 ?_
                refine pG_many 1 (pc1 := 199) (L1 := [some (.ref 0), some (.int x1_Z280), some (.int x2_Z280), some (.int x3_Z280), d4, d5, d6, d7]) (st1 := [.int 0]) (M1 := mjTo Z280) (fun _ _ => rfl) ?_
                simp only [Option.some.injEq, Prod.mk.injEq] at h
                obtain ⟨rfl, rfl⟩ := h
                exact pG_ret (r := some (.int 0)) rfl ⟨rfl, rfl⟩
              · rw [if_neg hc285] at h
                refine pG_cmf (t := 198) rfl rfl hc285 ?_
                refine pG_many 2 (pc1 := 182) (L1 := [some (.ref 0), some (.int x1_Z280), some (.int x2_Z280), some (.int x3_Z280), d4, d5, d6, d7]) (st1 := [.int 0, .ref 0]) (M1 := mjTo Z280) (fun _ _ => rfl) ?_
                cases hq286 : f182_who 0 Z280 with
                | none => rw [hq286] at h; cases h
                | some v287 =>
                  rw [hq286, mjBp_some] at h
                  refine pG_callV (k2 := 158) (As := [.ref 0, .int 0]) (rest := []) rfl rfl rfl rfl rfl (by rfl) (by decide) (by decide) (f182_who_ok hq286) ?_
                  rintro r9 M9 ⟨rfl, rfl⟩
                  show pG 201 185 [some (.ref 0), some (.int x1_Z280), some (.int x2_Z280), some (.int x3_Z280), d4, d5, d6, d7] [.int v287] (mjTo Z280) _
                  refine pG_many 3 (pc1 := 188) (L1 := [some (.ref 0), some (.int x1_Z280), some (.int x2_Z280), some (.int x3_Z280), d4, d5, d6, d7]) (st1 := [.int 1, .int x2_Z280, .ref 0, .int v287]) (M1 := mjTo Z280) (fun _ _ => rfl) ?_
                  cases hq289 : f170_act x2_Z280 1 Z280 with
                  | none => rw [hq289] at h; cases h
                  | some v290 =>
                    rw [hq289, mjBp_some] at h
                    refine pG_callV (k2 := 149) (As := [.ref 0, .int x2_Z280, .int 1]) (rest := [.int v287]) rfl rfl rfl rfl rfl (by rfl) (by decide) (by decide) (f170_act_ok hq289) ?_
                    rintro r9 M9 ⟨rfl, rfl⟩
                    show pG 201 191 [some (.ref 0), some (.int x1_Z280), some (.int x2_Z280), some (.int x3_Z280), d4, d5, d6, d7] [.int v290, .int v287] (mjTo Z280) _
                    refine pG_many 4 (pc1 := 195) (L1 := [some (.ref 0), some (.int x1_Z280), some (.int x2_Z280), some (.int x3_Z280), d4, d5, d6, d7]) (st1 := [.int 1, .int (((v287 : Int32) >>> ((v290 : Int32) &&& 31)) &&& 1)]) (M1 := mjTo Z280) (fun _ _ => rfl) ?_
                    by_cases hc292 : mjCmp .eq (((v287 : Int32) >>> ((v290 : Int32) &&& 31)) &&& 1) 1 = true
                    · rw [if_pos hc292] at h
                      refine pG_cmt (t := 200) rfl rfl hc292 ?_
                      refine pG_many 2 (pc1 := 9) (L1 := [some (.ref 0), some (.int x1_Z280), some (.int (x2_Z280 + 1)), some (.int x3_Z280), d4, d5, d6, d7]) (st1 := []) (M1 := mjTo Z280) (fun _ _ => rfl) ?_
                      exact f701_judged_h9_ok n x1_Z280 (x2_Z280 + 1) (some (.int x3_Z280)) d4 d5 d6 d7 Z280 v9 Z9 h
                    · rw [if_neg hc292] at h
                      refine pG_cmf (t := 200) rfl rfl hc292 ?_
                      refine pG_many 1 (pc1 := 199) (L1 := [some (.ref 0), some (.int x1_Z280), some (.int x2_Z280), some (.int x3_Z280), d4, d5, d6, d7]) (st1 := [.int 0]) (M1 := mjTo Z280) (fun _ _ => rfl) ?_
                      simp only [Option.some.injEq, Prod.mk.injEq] at h
                      obtain ⟨rfl, rfl⟩ := h
                      exact pG_ret (r := some (.int 0)) rfl ⟨rfl, rfl⟩
def f701_judged  (Z : mjZt) : Option (Int32 × mjZt) :=
  mjBp (f154_about 8 Z) fun v102 =>
  f701_judged_h9 mjF v102 0 Z
set_option maxRecDepth 100000 in
theorem f701_judged_ok  {Z : mjZt} {v9 : Int32} {Z9 : mjZt} (h : f701_judged  Z = some (v9, Z9)) : pG 201 0 (mjEnt [.ref 0] (mjML 201)) [] (mjTo Z) (fun r M1 => r = some (.int v9) ∧ M1 = mjTo Z9) := by
  unfold f701_judged at h
  show pG 201 0 [some (.ref 0), none, none, none, none, none, none, none] [] (mjTo Z) _
  refine pG_many 2 (pc1 := 3) (L1 := [some (.ref 0), none, none, none, none, none, none, none]) (st1 := [.int 8, .ref 0]) (M1 := mjTo Z) (fun _ _ => rfl) ?_
  cases hq101 : f154_about 8 Z with
  | none => rw [hq101] at h; cases h
  | some v102 =>
    rw [hq101, mjBp_some] at h
    refine pG_callV (k2 := 140) (As := [.ref 0, .int 8]) (rest := []) rfl rfl rfl rfl rfl (by rfl) (by decide) (by decide) (f154_about_ok hq101) ?_
    rintro r9 M9 ⟨rfl, rfl⟩
    show pG 201 6 [some (.ref 0), none, none, none, none, none, none, none] [.int v102] (mjTo Z) _
    refine pG_many 3 (pc1 := 9) (L1 := [some (.ref 0), some (.int v102), some (.int 0), none, none, none, none, none]) (st1 := []) (M1 := mjTo Z) (fun _ _ => rfl) ?_
    exact f701_judged_h9_ok mjF v102 0 none none none none none Z v9 Z9 h
