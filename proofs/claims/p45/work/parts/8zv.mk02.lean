/-! the translated methods of the law and of the JDK, 2 -/
def g197_init_j1100 (sg : Nat → Nat) (x0 : Nat) (x2 : Nat) (Z : mjQ) : Option (Unit × mjQ) :=
  if mjRo Z.2 x0 16 = true then
  mjBq (g195_next sg x0 2 Z) fun v288 Z289 =>
  if mjCmp .ne v288 0 = true then
    if mjRo Z289.2 x2 19 = true then
    mjBq (g235_toString sg x2 Z289) fun v293 Z294 =>
    mjBp (qSr Z294 x0 16 13 (some v293)) fun Z295 =>
    some ((), Z295)
    else none
  else
    if mjRo Z289.2 x0 16 = true then
    mjBq (g195_next sg x0 60 Z289) fun v299 Z300 =>
    mjBp (qSi Z300 x0 16 6 v299) fun Z301 =>
    if mjRo Z301.2 x2 19 = true then
    mjBq (g233_append sg x2 1000057 Z301) fun v305 Z306 =>
    mjBp (qI Z306.2 x0 16 6) fun v307 =>
    if mjRo Z306.2 v305 19 = true then
    mjBq (g230_append sg v305 v307 Z306) fun v311 Z312 =>
    if mjRo Z312.2 v311 19 = true then
    mjBq (g233_append sg v311 1000043 Z312) fun v315 Z316 =>
    mjBp (qI Z316.2 x0 16 7) fun v317 =>
    mjBp (qSi Z316 x0 16 7 (v317 + 1)) fun Z319 =>
    if mjRo Z319.2 x2 19 = true then
    mjBq (g235_toString sg x2 Z319) fun v323 Z324 =>
    mjBp (qSr Z324 x0 16 13 (some v323)) fun Z325 =>
    some ((), Z325)
    else none
    else none
    else none
    else none
    else none
  else none
set_option maxRecDepth 100000 in
theorem g197_init_j1100_ok {sg : Nat → Nat} (x0 : Nat) (x2 : Nat) (d1 d3 d4 d5 d6 d7 : Option Value) (Z : mjQ) (v9 : Unit) (Z9 : mjQ) (h : g197_init_j1100 sg x0 x2 Z = some (v9, Z9)) : pE sg 59 197 1100 [some (.ref x0), d1, some (.ref x2), d3, d4, d5, d6, d7] [] Z (fun r M1 => r = none ∧ M1 = Z9) := by
  unfold g197_init_j1100 at h
  refine pE_many 2 (pc1 := 1102) (L1 := [some (.ref x0), d1, some (.ref x2), d3, d4, d5, d6, d7]) (st1 := [.int 2, .ref x0]) rfl ?_
  have hk286 : mjRo Z.2 x0 16 = true := by
    by_cases q9 : mjRo Z.2 x0 16 = true
    · exact q9
    · rw [if_neg q9] at h; cases h
  rw [if_pos hk286] at h
  cases hq287 : g195_next sg x0 2 Z with
  | none => rw [hq287] at h; cases h
  | some w =>
    obtain ⟨v288, Z289⟩ := w
    rw [hq287, mjBq_some] at h
    refine pE_callV (k2 := 195) (As := [.int 2]) (rest := []) rfl rfl rfl rfl rfl rfl hk286 (by decide) (by decide) (by decide) (g195_next_ok hq287) ?_
    show pE sg 59 197 1105 [some (.ref x0), d1, some (.ref x2), d3, d4, d5, d6, d7] [.int v288] Z289 _
    by_cases hc290 : mjCmp .ne v288 0 = true
    · rw [if_pos hc290] at h
      refine pE_ift (t := 1147) rfl rfl hc290 ?_
      refine pE_many 2 (pc1 := 1149) (L1 := [some (.ref x0), d1, some (.ref x2), d3, d4, d5, d6, d7]) (st1 := [.ref x2, .ref x0]) rfl ?_
      have hk291 : mjRo Z289.2 x2 19 = true := by
        by_cases q9 : mjRo Z289.2 x2 19 = true
        · exact q9
        · rw [if_neg q9] at h; cases h
      rw [if_pos hk291] at h
      cases hq292 : g235_toString sg x2 Z289 with
      | none => rw [hq292] at h; cases h
      | some w =>
        obtain ⟨v293, Z294⟩ := w
        rw [hq292, mjBq_some] at h
        refine pE_callV (k2 := 235) (As := []) (rest := [.ref x0]) rfl rfl rfl rfl rfl rfl hk291 (by decide) (by decide) (by decide) (g235_toString_ok hq292) ?_
        show pE sg 59 197 1152 [some (.ref x0), d1, some (.ref x2), d3, d4, d5, d6, d7] [.ref v293, .ref x0] Z294 _
        cases hq296 : qSr Z294 x0 16 13 (some v293) with
        | none => rw [hq296] at h; cases h
        | some Z295 =>
          rw [hq296, mjBp_some] at h
          refine pE_pR (o := some v293) rfl rfl (by decide) (by decide) hq296 ?_
          simp only [Option.some.injEq, Prod.mk.injEq] at h
          obtain ⟨-, rfl⟩ := h
          exact pE_ret (r := none) rfl ⟨rfl, rfl⟩
    · rw [if_neg hc290] at h
      refine pE_iff (t := 1147) rfl rfl hc290 ?_
      refine pE_many 3 (pc1 := 1112) (L1 := [some (.ref x0), d1, some (.ref x2), d3, d4, d5, d6, d7]) (st1 := [.int 60, .ref x0, .ref x0]) rfl ?_
      have hk297 : mjRo Z289.2 x0 16 = true := by
        by_cases q9 : mjRo Z289.2 x0 16 = true
        · exact q9
        · rw [if_neg q9] at h; cases h
      rw [if_pos hk297] at h
      cases hq298 : g195_next sg x0 60 Z289 with
      | none => rw [hq298] at h; cases h
      | some w =>
        obtain ⟨v299, Z300⟩ := w
        rw [hq298, mjBq_some] at h
        refine pE_callV (k2 := 195) (As := [.int 60]) (rest := [.ref x0]) rfl rfl rfl rfl rfl rfl hk297 (by decide) (by decide) (by decide) (g195_next_ok hq298) ?_
        show pE sg 59 197 1115 [some (.ref x0), d1, some (.ref x2), d3, d4, d5, d6, d7] [.int v299, .ref x0] Z300 _
        cases hq302 : qSi Z300 x0 16 6 v299 with
        | none => rw [hq302] at h; cases h
        | some Z301 =>
          rw [hq302, mjBp_some] at h
          refine pE_pI rfl rfl (by decide) (by decide) hq302 ?_
          refine pE_many 2 (pc1 := 1121) (L1 := [some (.ref x0), d1, some (.ref x2), d3, d4, d5, d6, d7]) (st1 := [.ref 1000057, .ref x2]) rfl ?_
          have hk303 : mjRo Z301.2 x2 19 = true := by
            by_cases q9 : mjRo Z301.2 x2 19 = true
            · exact q9
            · rw [if_neg q9] at h; cases h
          rw [if_pos hk303] at h
          cases hq304 : g233_append sg x2 1000057 Z301 with
          | none => rw [hq304] at h; cases h
          | some w =>
            obtain ⟨v305, Z306⟩ := w
            rw [hq304, mjBq_some] at h
            refine pE_callV (k2 := 233) (As := [.ref 1000057]) (rest := []) rfl rfl rfl rfl rfl rfl hk303 (by decide) (by decide) (by decide) (g233_append_ok hq304) ?_
            show pE sg 59 197 1124 [some (.ref x0), d1, some (.ref x2), d3, d4, d5, d6, d7] [.ref v305] Z306 _
            refine pE_many 1 (pc1 := 1125) (L1 := [some (.ref x0), d1, some (.ref x2), d3, d4, d5, d6, d7]) (st1 := [.ref x0, .ref v305]) rfl ?_
            cases hq308 : qI Z306.2 x0 16 6 with
            | none => rw [hq308] at h; cases h
            | some v307 =>
              rw [hq308, mjBp_some] at h
              refine pE_gI rfl rfl hq308 ?_
              have hk309 : mjRo Z306.2 v305 19 = true := by
                by_cases q9 : mjRo Z306.2 v305 19 = true
                · exact q9
                · rw [if_neg q9] at h; cases h
              rw [if_pos hk309] at h
              cases hq310 : g230_append sg v305 v307 Z306 with
              | none => rw [hq310] at h; cases h
              | some w =>
                obtain ⟨v311, Z312⟩ := w
                rw [hq310, mjBq_some] at h
                refine pE_callV (k2 := 230) (As := [.int v307]) (rest := []) rfl rfl rfl rfl rfl rfl hk309 (by decide) (by decide) (by decide) (g230_append_ok hq310) ?_
                show pE sg 59 197 1131 [some (.ref x0), d1, some (.ref x2), d3, d4, d5, d6, d7] [.ref v311] Z312 _
                refine pE_many 1 (pc1 := 1133) (L1 := [some (.ref x0), d1, some (.ref x2), d3, d4, d5, d6, d7]) (st1 := [.ref 1000043, .ref v311]) rfl ?_
                have hk313 : mjRo Z312.2 v311 19 = true := by
                  by_cases q9 : mjRo Z312.2 v311 19 = true
                  · exact q9
                  · rw [if_neg q9] at h; cases h
                rw [if_pos hk313] at h
                cases hq314 : g233_append sg v311 1000043 Z312 with
                | none => rw [hq314] at h; cases h
                | some w =>
                  obtain ⟨v315, Z316⟩ := w
                  rw [hq314, mjBq_some] at h
                  refine pE_callV (k2 := 233) (As := [.ref 1000043]) (rest := []) rfl rfl rfl rfl rfl rfl hk313 (by decide) (by decide) (by decide) (g233_append_ok hq314) ?_
                  show pE sg 59 197 1136 [some (.ref x0), d1, some (.ref x2), d3, d4, d5, d6, d7] [.ref v315] Z316 _
                  refine pE_many 3 (pc1 := 1139) (L1 := [some (.ref x0), d1, some (.ref x2), d3, d4, d5, d6, d7]) (st1 := [.ref x0, .ref x0]) rfl ?_
                  cases hq318 : qI Z316.2 x0 16 7 with
                  | none => rw [hq318] at h; cases h
                  | some v317 =>
                    rw [hq318, mjBp_some] at h
                    refine pE_gI rfl rfl hq318 ?_
                    refine pE_many 2 (pc1 := 1144) (L1 := [some (.ref x0), d1, some (.ref x2), d3, d4, d5, d6, d7]) (st1 := [.int (v317 + 1), .ref x0]) rfl ?_
                    cases hq320 : qSi Z316 x0 16 7 (v317 + 1) with
                    | none => rw [hq320] at h; cases h
                    | some Z319 =>
                      rw [hq320, mjBp_some] at h
                      refine pE_pI rfl rfl (by decide) (by decide) hq320 ?_
                      refine pE_many 2 (pc1 := 1149) (L1 := [some (.ref x0), d1, some (.ref x2), d3, d4, d5, d6, d7]) (st1 := [.ref x2, .ref x0]) rfl ?_
                      have hk321 : mjRo Z319.2 x2 19 = true := by
                        by_cases q9 : mjRo Z319.2 x2 19 = true
                        · exact q9
                        · rw [if_neg q9] at h; cases h
                      rw [if_pos hk321] at h
                      cases hq322 : g235_toString sg x2 Z319 with
                      | none => rw [hq322] at h; cases h
                      | some w =>
                        obtain ⟨v323, Z324⟩ := w
                        rw [hq322, mjBq_some] at h
                        refine pE_callV (k2 := 235) (As := []) (rest := [.ref x0]) rfl rfl rfl rfl rfl rfl hk321 (by decide) (by decide) (by decide) (g235_toString_ok hq322) ?_
                        show pE sg 59 197 1152 [some (.ref x0), d1, some (.ref x2), d3, d4, d5, d6, d7] [.ref v323, .ref x0] Z324 _
                        cases hq326 : qSr Z324 x0 16 13 (some v323) with
                        | none => rw [hq326] at h; cases h
                        | some Z325 =>
                          rw [hq326, mjBp_some] at h
                          refine pE_pR (o := some v323) rfl rfl (by decide) (by decide) hq326 ?_
                          simp only [Option.some.injEq, Prod.mk.injEq] at h
                          obtain ⟨-, rfl⟩ := h
                          exact pE_ret (r := none) rfl ⟨rfl, rfl⟩
def g197_init_j993 (sg : Nat → Nat) (R : Nat → Nat → Nat → Nat → Int32 → mjQ → Option (Unit × mjQ)) (x0 : Nat) (x1 : Nat) (x2 : Nat) (x3 : Nat) (x4 : Int32) (x5 : Nat) (x6 : Nat) (Z : mjQ) : Option (Unit × mjQ) :=
  if mjRo Z.2 x2 19 = true then
  mjBp (g234_length x2 Z) fun v418 =>
  if mjRo Z.2 x6 19 = true then
  mjBp (g234_length x6 Z) fun v422 =>
  if mjCmp .le (v418 + v422) 660 = true then
    mjBq (g231_append sg x2 x6 Z) fun v426 Z427 =>
    if mjRo Z427.2 v426 19 = true then
    mjBq (g233_append sg v426 1000043 Z427) fun v430 Z431 =>
    mjBp (qR Z431.2 x0 16 11) fun v432 =>
    if mjRo Z431.2 v432 20 = true then
    mjBq (g240_add sg v432 x5 Z431) fun v436 Z437 =>
    mjBp (qI Z437.2 x0 16 7) fun v438 =>
    mjBp (qSi Z437 x0 16 7 (v438 + 1)) fun Z440 =>
    R x0 x1 x2 x3 (x4 + (-1)) Z440
    else none
    else none
  else
    R x0 x1 x2 x3 (x4 + (-1)) Z
  else none
  else none
set_option maxRecDepth 100000 in
theorem g197_init_j993_ok {sg : Nat → Nat} (R : Nat → Nat → Nat → Nat → Int32 → mjQ → Option (Unit × mjQ)) (hR : ∀ (x0 : Nat) (x1 : Nat) (x2 : Nat) (x3 : Nat) (x4 : Int32) (d5 d6 d7 : Option Value) (Z : mjQ) (v9 : Unit) (Z9 : mjQ), R x0 x1 x2 x3 x4 Z = some (v9, Z9) → pE sg 59 197 820 [some (.ref x0), some (.ref x1), some (.ref x2), some (.ref x3), some (.int x4), d5, d6, d7] [] Z (fun r M1 => r = none ∧ M1 = Z9)) (x0 : Nat) (x1 : Nat) (x2 : Nat) (x3 : Nat) (x4 : Int32) (x5 : Nat) (x6 : Nat) (d7 : Option Value) (Z : mjQ) (v9 : Unit) (Z9 : mjQ) (h : g197_init_j993 sg R x0 x1 x2 x3 x4 x5 x6 Z = some (v9, Z9)) : pE sg 59 197 993 [some (.ref x0), some (.ref x1), some (.ref x2), some (.ref x3), some (.int x4), some (.ref x5), some (.ref x6), d7] [] Z (fun r M1 => r = none ∧ M1 = Z9) := by
  unfold g197_init_j993 at h
  refine pE_many 1 (pc1 := 994) (L1 := [some (.ref x0), some (.ref x1), some (.ref x2), some (.ref x3), some (.int x4), some (.ref x5), some (.ref x6), d7]) (st1 := [.ref x2]) rfl ?_
  have hk416 : mjRo Z.2 x2 19 = true := by
    by_cases q9 : mjRo Z.2 x2 19 = true
    · exact q9
    · rw [if_neg q9] at h; cases h
  rw [if_pos hk416] at h
  cases hq417 : g234_length x2 Z with
  | none => rw [hq417] at h; cases h
  | some v418 =>
    rw [hq417, mjBp_some] at h
    refine pE_callV (k2 := 234) (As := []) (rest := []) rfl rfl rfl rfl rfl rfl hk416 (by decide) (by decide) (by decide) (g234_length_ok hq417) ?_
    show pE sg 59 197 997 [some (.ref x0), some (.ref x1), some (.ref x2), some (.ref x3), some (.int x4), some (.ref x5), some (.ref x6), d7] [.int v418] Z _
    refine pE_many 1 (pc1 := 999) (L1 := [some (.ref x0), some (.ref x1), some (.ref x2), some (.ref x3), some (.int x4), some (.ref x5), some (.ref x6), d7]) (st1 := [.ref x6, .int v418]) rfl ?_
    have hk420 : mjRo Z.2 x6 19 = true := by
      by_cases q9 : mjRo Z.2 x6 19 = true
      · exact q9
      · rw [if_neg q9] at h; cases h
    rw [if_pos hk420] at h
    cases hq421 : g234_length x6 Z with
    | none => rw [hq421] at h; cases h
    | some v422 =>
      rw [hq421, mjBp_some] at h
      refine pE_callV (k2 := 234) (As := []) (rest := [.int v418]) rfl rfl rfl rfl rfl rfl hk420 (by decide) (by decide) (by decide) (g234_length_ok hq421) ?_
      show pE sg 59 197 1002 [some (.ref x0), some (.ref x1), some (.ref x2), some (.ref x3), some (.int x4), some (.ref x5), some (.ref x6), d7] [.int v422, .int v418] Z _
      refine pE_many 2 (pc1 := 1006) (L1 := [some (.ref x0), some (.ref x1), some (.ref x2), some (.ref x3), some (.int x4), some (.ref x5), some (.ref x6), d7]) (st1 := [.int 660, .int (v418 + v422)]) rfl ?_
      by_cases hc424 : mjCmp .le (v418 + v422) 660 = true
      · rw [if_pos hc424] at h
        refine pE_cmt (t := 1012) rfl rfl hc424 ?_
        refine pE_many 2 (pc1 := 1015) (L1 := [some (.ref x0), some (.ref x1), some (.ref x2), some (.ref x3), some (.int x4), some (.ref x5), some (.ref x6), d7]) (st1 := [.ref x6, .ref x2]) rfl ?_
        cases hq425 : g231_append sg x2 x6 Z with
        | none => rw [hq425] at h; cases h
        | some w =>
          obtain ⟨v426, Z427⟩ := w
          rw [hq425, mjBq_some] at h
          refine pE_callV (k2 := 231) (As := [.ref x6]) (rest := []) rfl rfl rfl rfl rfl rfl hk416 (by decide) (by decide) (by decide) (g231_append_ok hq425) ?_
          show pE sg 59 197 1018 [some (.ref x0), some (.ref x1), some (.ref x2), some (.ref x3), some (.int x4), some (.ref x5), some (.ref x6), d7] [.ref v426] Z427 _
          refine pE_many 1 (pc1 := 1020) (L1 := [some (.ref x0), some (.ref x1), some (.ref x2), some (.ref x3), some (.int x4), some (.ref x5), some (.ref x6), d7]) (st1 := [.ref 1000043, .ref v426]) rfl ?_
          have hk428 : mjRo Z427.2 v426 19 = true := by
            by_cases q9 : mjRo Z427.2 v426 19 = true
            · exact q9
            · rw [if_neg q9] at h; cases h
          rw [if_pos hk428] at h
          cases hq429 : g233_append sg v426 1000043 Z427 with
          | none => rw [hq429] at h; cases h
          | some w =>
            obtain ⟨v430, Z431⟩ := w
            rw [hq429, mjBq_some] at h
            refine pE_callV (k2 := 233) (As := [.ref 1000043]) (rest := []) rfl rfl rfl rfl rfl rfl hk428 (by decide) (by decide) (by decide) (g233_append_ok hq429) ?_
            show pE sg 59 197 1023 [some (.ref x0), some (.ref x1), some (.ref x2), some (.ref x3), some (.int x4), some (.ref x5), some (.ref x6), d7] [.ref v430] Z431 _
            refine pE_many 2 (pc1 := 1025) (L1 := [some (.ref x0), some (.ref x1), some (.ref x2), some (.ref x3), some (.int x4), some (.ref x5), some (.ref x6), d7]) (st1 := [.ref x0]) rfl ?_
            cases hq433 : qR Z431.2 x0 16 11 with
            | none => rw [hq433] at h; cases h
            | some v432 =>
              rw [hq433, mjBp_some] at h
              refine pE_gR rfl rfl hq433 ?_
              refine pE_many 1 (pc1 := 1030) (L1 := [some (.ref x0), some (.ref x1), some (.ref x2), some (.ref x3), some (.int x4), some (.ref x5), some (.ref x6), d7]) (st1 := [.ref x5, .ref v432]) rfl ?_
              have hk434 : mjRo Z431.2 v432 20 = true := by
                by_cases q9 : mjRo Z431.2 v432 20 = true
                · exact q9
                · rw [if_neg q9] at h; cases h
              rw [if_pos hk434] at h
              cases hq435 : g240_add sg v432 x5 Z431 with
              | none => rw [hq435] at h; cases h
              | some w =>
                obtain ⟨v436, Z437⟩ := w
                rw [hq435, mjBq_some] at h
                refine pE_callI (k2 := 240) (As := [.ref x5]) (rest := []) rfl rfl rfl rfl rfl rfl hk434 (by decide) (by decide) (by decide) (g240_add_ok hq435) ?_
                show pE sg 59 197 1035 [some (.ref x0), some (.ref x1), some (.ref x2), some (.ref x3), some (.int x4), some (.ref x5), some (.ref x6), d7] [.int v436] Z437 _
                refine pE_many 3 (pc1 := 1038) (L1 := [some (.ref x0), some (.ref x1), some (.ref x2), some (.ref x3), some (.int x4), some (.ref x5), some (.ref x6), d7]) (st1 := [.ref x0, .ref x0]) rfl ?_
                cases hq439 : qI Z437.2 x0 16 7 with
                | none => rw [hq439] at h; cases h
                | some v438 =>
                  rw [hq439, mjBp_some] at h
                  refine pE_gI rfl rfl hq439 ?_
                  refine pE_many 2 (pc1 := 1043) (L1 := [some (.ref x0), some (.ref x1), some (.ref x2), some (.ref x3), some (.int x4), some (.ref x5), some (.ref x6), d7]) (st1 := [.int (v438 + 1), .ref x0]) rfl ?_
                  cases hq441 : qSi Z437 x0 16 7 (v438 + 1) with
                  | none => rw [hq441] at h; cases h
                  | some Z440 =>
                    rw [hq441, mjBp_some] at h
                    refine pE_pI rfl rfl (by decide) (by decide) hq441 ?_
                    refine pE_many 2 (pc1 := 820) (L1 := [some (.ref x0), some (.ref x1), some (.ref x2), some (.ref x3), some (.int (x4 + (-1))), some (.ref x5), some (.ref x6), d7]) (st1 := []) rfl ?_
                    exact hR x0 x1 x2 x3 (x4 + (-1)) (some (.ref x5)) (some (.ref x6)) d7 Z440 v9 Z9 h
      · rw [if_neg hc424] at h
        refine pE_cmf (t := 1012) rfl rfl hc424 ?_
        refine pE_many 3 (pc1 := 820) (L1 := [some (.ref x0), some (.ref x1), some (.ref x2), some (.ref x3), some (.int (x4 + (-1))), some (.ref x5), some (.ref x6), d7]) (st1 := []) rfl ?_
        exact hR x0 x1 x2 x3 (x4 + (-1)) (some (.ref x5)) (some (.ref x6)) d7 Z v9 Z9 h
def g197_init_h820 (sg : Nat → Nat) : Nat → Nat → Nat → Nat → Nat → Int32 → mjQ → Option (Unit × mjQ)
  | 0, _, _, _, _, _, _ => none
  | n + 1, x0, x1, x2, x3, x4, Z =>
    if mjCmp .le x4 0 = true then
      if mjRo Z.2 x0 16 = true then
      mjBq (g195_next sg x0 2 Z) fun v283 Z284 =>
      if mjCmp .ne v283 0 = true then
        g197_init_j1100 sg x0 x2 Z284
      else
        if mjRo Z284.2 x0 16 = true then
        mjBq (g195_next sg x0 3 Z284) fun v329 Z330 =>
        mjBp (qSi Z330 x0 16 5 (1 + v329)) fun Z331 =>
        if mjRo Z331.2 x2 19 = true then
        mjBq (g233_append sg x2 1000056 Z331) fun v335 Z336 =>
        mjBp (qI Z336.2 x0 16 5) fun v337 =>
        if mjRo Z336.2 v335 19 = true then
        mjBq (g230_append sg v335 v337 Z336) fun v341 Z342 =>
        if mjRo Z342.2 v341 19 = true then
        mjBq (g233_append sg v341 1000043 Z342) fun v345 Z346 =>
        mjBp (qI Z346.2 x0 16 7) fun v347 =>
        mjBp (qSi Z346 x0 16 7 (v347 + 1)) fun Z349 =>
        g197_init_j1100 sg x0 x2 Z349
        else none
        else none
        else none
        else none
      else none
    else
      mjBq (qNew sg Z (15, 0)) fun v351 Z353 =>
      mjBq (g194_init sg v351 Z353) fun _ Z356 =>
      if mjRo Z356.2 x0 16 = true then
      mjBq (g195_next sg x0 5 Z356) fun v359 Z360 =>
      mjBp (qSi Z360 v351 15 0 v359) fun Z361 =>
      mjBq (qNew sg Z361 (19, 0)) fun v363 Z365 =>
      mjBq (g228_init sg v363 1000053 Z365) fun _ Z368 =>
      mjBp (qR Z368.2 x0 16 11) fun v369 =>
      if mjRo Z368.2 v369 20 = true then
      mjBp (g249_size v369 Z368) fun v373 =>
      if mjRo Z368.2 v363 19 = true then
      mjBq (g229_append sg v363 (((97 + v373).toUInt32 % 65536).toInt32) Z368) fun v377 Z378 =>
      if mjRo Z378.2 v377 19 = true then
      mjBq (g233_append sg v377 1000042 Z378) fun v381 Z382 =>
      mjBp (qI Z382.2 v351 15 0) fun v383 =>
      mjBp (qAa Z382.2 x3 v383) fun v385 =>
      if mjRo Z382.2 v381 19 = true then
      mjBq (g233_append sg v381 v385 Z382) fun v389 Z390 =>
      if mjRo Z390.2 v389 19 = true then
      mjBq (g233_append sg v389 1000054 Z390) fun v393 Z394 =>
      mjBq (qNew sg Z394 (13, 0)) fun v395 Z397 =>
      mjBq (g183_init sg v395 x1 (100 + (100 * x4)) Z397) fun _ Z400 =>
      if mjRo Z400.2 v395 13 = true then
      mjBq (g192_tc sg v395 v363 0 Z400) fun v403 Z404 =>
      mjBp (qSr Z404 v351 15 3 (some v403)) fun Z405 =>
      mjBp (qI Z405.2 v395 13 3) fun v407 =>
      mjBp (qSi Z405 v351 15 1 v407) fun Z409 =>
      if mjRo Z409.2 x0 16 = true then
      mjBq (g195_next sg x0 2 Z409) fun v413 Z414 =>
      if mjCmp .ne v413 0 = true then
        g197_init_j993 sg (g197_init_h820 sg n) x0 x1 x2 x3 x4 v351 v363 Z414
      else
        if mjRo Z414.2 v363 19 = true then
        mjBq (g233_append sg v363 1000055 Z414) fun v444 Z445 =>
        mjBq (qNew sg Z445 (13, 0)) fun v446 Z448 =>
        mjBq (g183_init sg v446 x1 (150 + (100 * x4)) Z448) fun _ Z451 =>
        if mjRo Z451.2 v446 13 = true then
        mjBq (g192_tc sg v446 v363 0 Z451) fun v454 Z455 =>
        mjBp (qSr Z455 v351 15 4 (some v454)) fun Z456 =>
        mjBp (qI Z456.2 v446 13 3) fun v458 =>
        mjBp (qSi Z456 v351 15 2 v458) fun Z460 =>
        g197_init_j993 sg (g197_init_h820 sg n) x0 x1 x2 x3 x4 v351 v363 Z460
        else none
        else none
      else none
      else none
      else none
      else none
      else none
      else none
      else none
      else none
set_option maxRecDepth 100000 in
theorem g197_init_h820_ok {sg : Nat → Nat} : ∀ (n : Nat) (x0 : Nat) (x1 : Nat) (x2 : Nat) (x3 : Nat) (x4 : Int32) (d5 d6 d7 : Option Value) (Z : mjQ) (v9 : Unit) (Z9 : mjQ), g197_init_h820 sg n x0 x1 x2 x3 x4 Z = some (v9, Z9) → pE sg 59 197 820 [some (.ref x0), some (.ref x1), some (.ref x2), some (.ref x3), some (.int x4), d5, d6, d7] [] Z (fun r M1 => r = none ∧ M1 = Z9)
  | 0, x0, x1, x2, x3, x4, d5, d6, d7, Z, v9, Z9, h => by rw [g197_init_h820] at h; cases h
  | n + 1, x0, x1, x2, x3, x4, d5, d6, d7, Z, v9, Z9, h => by
      rw [g197_init_h820] at h
      refine pE_many 1 (pc1 := 822) (L1 := [some (.ref x0), some (.ref x1), some (.ref x2), some (.ref x3), some (.int x4), d5, d6, d7]) (st1 := [.int x4]) rfl ?_
      by_cases hc280 : mjCmp .le x4 0 = true
      · rw [if_pos hc280] at h
        refine pE_ift (t := 1052) rfl rfl hc280 ?_
        refine pE_many 2 (pc1 := 1054) (L1 := [some (.ref x0), some (.ref x1), some (.ref x2), some (.ref x3), some (.int x4), d5, d6, d7]) (st1 := [.int 2, .ref x0]) rfl ?_
        have hk281 : mjRo Z.2 x0 16 = true := by
          by_cases q9 : mjRo Z.2 x0 16 = true
          · exact q9
          · rw [if_neg q9] at h; cases h
        rw [if_pos hk281] at h
        cases hq282 : g195_next sg x0 2 Z with
        | none => rw [hq282] at h; cases h
        | some w =>
          obtain ⟨v283, Z284⟩ := w
          rw [hq282, mjBq_some] at h
          refine pE_callV (k2 := 195) (As := [.int 2]) (rest := []) rfl rfl rfl rfl rfl rfl hk281 (by decide) (by decide) (by decide) (g195_next_ok hq282) ?_
          show pE sg 59 197 1057 [some (.ref x0), some (.ref x1), some (.ref x2), some (.ref x3), some (.int x4), d5, d6, d7] [.int v283] Z284 _
          by_cases hc285 : mjCmp .ne v283 0 = true
          · rw [if_pos hc285] at h
            refine pE_ift (t := 1100) rfl rfl hc285 ?_
            exact g197_init_j1100_ok x0 x2 (some (.ref x1)) (some (.ref x3)) (some (.int x4)) d5 d6 d7 Z284 v9 Z9 h
          · rw [if_neg hc285] at h
            refine pE_iff (t := 1100) rfl rfl hc285 ?_
            refine pE_many 4 (pc1 := 1064) (L1 := [some (.ref x0), some (.ref x1), some (.ref x2), some (.ref x3), some (.int x4), d5, d6, d7]) (st1 := [.int 3, .ref x0, .int 1, .ref x0]) rfl ?_
            have hk327 : mjRo Z284.2 x0 16 = true := by
              by_cases q9 : mjRo Z284.2 x0 16 = true
              · exact q9
              · rw [if_neg q9] at h; cases h
            rw [if_pos hk327] at h
            cases hq328 : g195_next sg x0 3 Z284 with
            | none => rw [hq328] at h; cases h
            | some w =>
              obtain ⟨v329, Z330⟩ := w
              rw [hq328, mjBq_some] at h
              refine pE_callV (k2 := 195) (As := [.int 3]) (rest := [.int 1, .ref x0]) rfl rfl rfl rfl rfl rfl hk327 (by decide) (by decide) (by decide) (g195_next_ok hq328) ?_
              show pE sg 59 197 1067 [some (.ref x0), some (.ref x1), some (.ref x2), some (.ref x3), some (.int x4), d5, d6, d7] [.int v329, .int 1, .ref x0] Z330 _
              refine pE_many 1 (pc1 := 1068) (L1 := [some (.ref x0), some (.ref x1), some (.ref x2), some (.ref x3), some (.int x4), d5, d6, d7]) (st1 := [.int (1 + v329), .ref x0]) rfl ?_
              cases hq332 : qSi Z330 x0 16 5 (1 + v329) with
              | none => rw [hq332] at h; cases h
              | some Z331 =>
                rw [hq332, mjBp_some] at h
                refine pE_pI rfl rfl (by decide) (by decide) hq332 ?_
                refine pE_many 2 (pc1 := 1074) (L1 := [some (.ref x0), some (.ref x1), some (.ref x2), some (.ref x3), some (.int x4), d5, d6, d7]) (st1 := [.ref 1000056, .ref x2]) rfl ?_
                have hk333 : mjRo Z331.2 x2 19 = true := by
                  by_cases q9 : mjRo Z331.2 x2 19 = true
                  · exact q9
                  · rw [if_neg q9] at h; cases h
                rw [if_pos hk333] at h
                cases hq334 : g233_append sg x2 1000056 Z331 with
                | none => rw [hq334] at h; cases h
                | some w =>
                  obtain ⟨v335, Z336⟩ := w
                  rw [hq334, mjBq_some] at h
                  refine pE_callV (k2 := 233) (As := [.ref 1000056]) (rest := []) rfl rfl rfl rfl rfl rfl hk333 (by decide) (by decide) (by decide) (g233_append_ok hq334) ?_
                  show pE sg 59 197 1077 [some (.ref x0), some (.ref x1), some (.ref x2), some (.ref x3), some (.int x4), d5, d6, d7] [.ref v335] Z336 _
                  refine pE_many 1 (pc1 := 1078) (L1 := [some (.ref x0), some (.ref x1), some (.ref x2), some (.ref x3), some (.int x4), d5, d6, d7]) (st1 := [.ref x0, .ref v335]) rfl ?_
                  cases hq338 : qI Z336.2 x0 16 5 with
                  | none => rw [hq338] at h; cases h
                  | some v337 =>
                    rw [hq338, mjBp_some] at h
                    refine pE_gI rfl rfl hq338 ?_
                    have hk339 : mjRo Z336.2 v335 19 = true := by
                      by_cases q9 : mjRo Z336.2 v335 19 = true
                      · exact q9
                      · rw [if_neg q9] at h; cases h
                    rw [if_pos hk339] at h
                    cases hq340 : g230_append sg v335 v337 Z336 with
                    | none => rw [hq340] at h; cases h
                    | some w =>
                      obtain ⟨v341, Z342⟩ := w
                      rw [hq340, mjBq_some] at h
                      refine pE_callV (k2 := 230) (As := [.int v337]) (rest := []) rfl rfl rfl rfl rfl rfl hk339 (by decide) (by decide) (by decide) (g230_append_ok hq340) ?_
                      show pE sg 59 197 1084 [some (.ref x0), some (.ref x1), some (.ref x2), some (.ref x3), some (.int x4), d5, d6, d7] [.ref v341] Z342 _
                      refine pE_many 1 (pc1 := 1086) (L1 := [some (.ref x0), some (.ref x1), some (.ref x2), some (.ref x3), some (.int x4), d5, d6, d7]) (st1 := [.ref 1000043, .ref v341]) rfl ?_
                      have hk343 : mjRo Z342.2 v341 19 = true := by
                        by_cases q9 : mjRo Z342.2 v341 19 = true
                        · exact q9
                        · rw [if_neg q9] at h; cases h
                      rw [if_pos hk343] at h
                      cases hq344 : g233_append sg v341 1000043 Z342 with
                      | none => rw [hq344] at h; cases h
                      | some w =>
                        obtain ⟨v345, Z346⟩ := w
                        rw [hq344, mjBq_some] at h
                        refine pE_callV (k2 := 233) (As := [.ref 1000043]) (rest := []) rfl rfl rfl rfl rfl rfl hk343 (by decide) (by decide) (by decide) (g233_append_ok hq344) ?_
                        show pE sg 59 197 1089 [some (.ref x0), some (.ref x1), some (.ref x2), some (.ref x3), some (.int x4), d5, d6, d7] [.ref v345] Z346 _
                        refine pE_many 3 (pc1 := 1092) (L1 := [some (.ref x0), some (.ref x1), some (.ref x2), some (.ref x3), some (.int x4), d5, d6, d7]) (st1 := [.ref x0, .ref x0]) rfl ?_
                        cases hq348 : qI Z346.2 x0 16 7 with
                        | none => rw [hq348] at h; cases h
                        | some v347 =>
                          rw [hq348, mjBp_some] at h
                          refine pE_gI rfl rfl hq348 ?_
                          refine pE_many 2 (pc1 := 1097) (L1 := [some (.ref x0), some (.ref x1), some (.ref x2), some (.ref x3), some (.int x4), d5, d6, d7]) (st1 := [.int (v347 + 1), .ref x0]) rfl ?_
                          cases hq350 : qSi Z346 x0 16 7 (v347 + 1) with
                          | none => rw [hq350] at h; cases h
                          | some Z349 =>
                            rw [hq350, mjBp_some] at h
                            refine pE_pI rfl rfl (by decide) (by decide) hq350 ?_
                            exact g197_init_j1100_ok x0 x2 (some (.ref x1)) (some (.ref x3)) (some (.int x4)) d5 d6 d7 Z349 v9 Z9 h
      · rw [if_neg hc280] at h
        refine pE_iff (t := 1052) rfl rfl hc280 ?_
        cases hq352 : qNew sg Z (15, 0) with
        | none => rw [hq352] at h; cases h
        | some w =>
          obtain ⟨v351, Z353⟩ := w
          rw [hq352, mjBq_some] at h
          refine pE_newO rfl rfl (by decide) hq352 ?_
          refine pE_many 1 (pc1 := 829) (L1 := [some (.ref x0), some (.ref x1), some (.ref x2), some (.ref x3), some (.int x4), d5, d6, d7]) (st1 := [.ref v351, .ref v351]) rfl ?_
          cases hq354 : g194_init sg v351 Z353 with
          | none => rw [hq354] at h; cases h
          | some w =>
            obtain ⟨v355, Z356⟩ := w
            rw [hq354, mjBq_some] at h
            refine pE_call (k2 := 194) (As := [.ref v351]) (rest := [.ref v351]) (w := 3) rfl (by decide) (by decide) (g194_init_ok hq354) ?_
            show pE sg 59 197 832 [some (.ref x0), some (.ref x1), some (.ref x2), some (.ref x3), some (.int x4), d5, d6, d7] [.ref v351] Z356 _
            refine pE_many 4 (pc1 := 838) (L1 := [some (.ref x0), some (.ref x1), some (.ref x2), some (.ref x3), some (.int x4), some (.ref v351), d6, d7]) (st1 := [.int 5, .ref x0, .ref v351]) rfl ?_
            have hk357 : mjRo Z356.2 x0 16 = true := by
              by_cases q9 : mjRo Z356.2 x0 16 = true
              · exact q9
              · rw [if_neg q9] at h; cases h
            rw [if_pos hk357] at h
            cases hq358 : g195_next sg x0 5 Z356 with
            | none => rw [hq358] at h; cases h
            | some w =>
              obtain ⟨v359, Z360⟩ := w
              rw [hq358, mjBq_some] at h
              refine pE_callV (k2 := 195) (As := [.int 5]) (rest := [.ref v351]) rfl rfl rfl rfl rfl rfl hk357 (by decide) (by decide) (by decide) (g195_next_ok hq358) ?_
              show pE sg 59 197 841 [some (.ref x0), some (.ref x1), some (.ref x2), some (.ref x3), some (.int x4), some (.ref v351), d6, d7] [.int v359, .ref v351] Z360 _
              cases hq362 : qSi Z360 v351 15 0 v359 with
              | none => rw [hq362] at h; cases h
              | some Z361 =>
                rw [hq362, mjBp_some] at h
                refine pE_pI rfl rfl (by decide) (by decide) hq362 ?_
                cases hq364 : qNew sg Z361 (19, 0) with
                | none => rw [hq364] at h; cases h
                | some w =>
                  obtain ⟨v363, Z365⟩ := w
                  rw [hq364, mjBq_some] at h
                  refine pE_newO rfl rfl (by decide) hq364 ?_
                  refine pE_many 2 (pc1 := 850) (L1 := [some (.ref x0), some (.ref x1), some (.ref x2), some (.ref x3), some (.int x4), some (.ref v351), d6, d7]) (st1 := [.ref 1000053, .ref v363, .ref v363]) rfl ?_
                  cases hq366 : g228_init sg v363 1000053 Z365 with
                  | none => rw [hq366] at h; cases h
                  | some w =>
                    obtain ⟨v367, Z368⟩ := w
                    rw [hq366, mjBq_some] at h
                    refine pE_call (k2 := 228) (As := [.ref v363, .ref 1000053]) (rest := [.ref v363]) (w := 3) rfl (by decide) (by decide) (g228_init_ok hq366) ?_
                    show pE sg 59 197 853 [some (.ref x0), some (.ref x1), some (.ref x2), some (.ref x3), some (.int x4), some (.ref v351), d6, d7] [.ref v363] Z368 _
                    refine pE_many 4 (pc1 := 860) (L1 := [some (.ref x0), some (.ref x1), some (.ref x2), some (.ref x3), some (.int x4), some (.ref v351), some (.ref v363), d7]) (st1 := [.ref x0, .int 97, .ref v363]) rfl ?_
                    cases hq370 : qR Z368.2 x0 16 11 with
                    | none => rw [hq370] at h; cases h
                    | some v369 =>
                      rw [hq370, mjBp_some] at h
                      refine pE_gR rfl rfl hq370 ?_
                      have hk371 : mjRo Z368.2 v369 20 = true := by
                        by_cases q9 : mjRo Z368.2 v369 20 = true
                        · exact q9
                        · rw [if_neg q9] at h; cases h
                      rw [if_pos hk371] at h
                      cases hq372 : g249_size v369 Z368 with
                      | none => rw [hq372] at h; cases h
                      | some v373 =>
                        rw [hq372, mjBp_some] at h
                        refine pE_callI (k2 := 249) (As := []) (rest := [.int 97, .ref v363]) rfl rfl rfl rfl rfl rfl hk371 (by decide) (by decide) (by decide) (g249_size_ok hq372) ?_
                        show pE sg 59 197 868 [some (.ref x0), some (.ref x1), some (.ref x2), some (.ref x3), some (.int x4), some (.ref v351), some (.ref v363), d7] [.int v373, .int 97, .ref v363] Z368 _
                        refine pE_many 2 (pc1 := 870) (L1 := [some (.ref x0), some (.ref x1), some (.ref x2), some (.ref x3), some (.int x4), some (.ref v351), some (.ref v363), d7]) (st1 := [.int (((97 + v373).toUInt32 % 65536).toInt32), .ref v363]) rfl ?_
                        have hk375 : mjRo Z368.2 v363 19 = true := by
                          by_cases q9 : mjRo Z368.2 v363 19 = true
                          · exact q9
                          · rw [if_neg q9] at h; cases h
                        rw [if_pos hk375] at h
                        cases hq376 : g229_append sg v363 (((97 + v373).toUInt32 % 65536).toInt32) Z368 with
                        | none => rw [hq376] at h; cases h
                        | some w =>
                          obtain ⟨v377, Z378⟩ := w
                          rw [hq376, mjBq_some] at h
                          refine pE_callV (k2 := 229) (As := [.int (((97 + v373).toUInt32 % 65536).toInt32)]) (rest := []) rfl rfl rfl rfl rfl rfl hk375 (by decide) (by decide) (by decide) (g229_append_ok hq376) ?_
                          show pE sg 59 197 873 [some (.ref x0), some (.ref x1), some (.ref x2), some (.ref x3), some (.int x4), some (.ref v351), some (.ref v363), d7] [.ref v377] Z378 _
                          refine pE_many 1 (pc1 := 875) (L1 := [some (.ref x0), some (.ref x1), some (.ref x2), some (.ref x3), some (.int x4), some (.ref v351), some (.ref v363), d7]) (st1 := [.ref 1000042, .ref v377]) rfl ?_
                          have hk379 : mjRo Z378.2 v377 19 = true := by
                            by_cases q9 : mjRo Z378.2 v377 19 = true
                            · exact q9
                            · rw [if_neg q9] at h; cases h
                          rw [if_pos hk379] at h
                          cases hq380 : g233_append sg v377 1000042 Z378 with
                          | none => rw [hq380] at h; cases h
                          | some w =>
                            obtain ⟨v381, Z382⟩ := w
                            rw [hq380, mjBq_some] at h
                            refine pE_callV (k2 := 233) (As := [.ref 1000042]) (rest := []) rfl rfl rfl rfl rfl rfl hk379 (by decide) (by decide) (by decide) (g233_append_ok hq380) ?_
                            show pE sg 59 197 878 [some (.ref x0), some (.ref x1), some (.ref x2), some (.ref x3), some (.int x4), some (.ref v351), some (.ref v363), d7] [.ref v381] Z382 _
                            refine pE_many 2 (pc1 := 881) (L1 := [some (.ref x0), some (.ref x1), some (.ref x2), some (.ref x3), some (.int x4), some (.ref v351), some (.ref v363), d7]) (st1 := [.ref v351, .ref x3, .ref v381]) rfl ?_
                            cases hq384 : qI Z382.2 v351 15 0 with
                            | none => rw [hq384] at h; cases h
                            | some v383 =>
                              rw [hq384, mjBp_some] at h
                              refine pE_gI rfl rfl hq384 ?_
                              cases hq386 : qAa Z382.2 x3 v383 with
                              | none => rw [hq386] at h; cases h
                              | some v385 =>
                                rw [hq386, mjBp_some] at h
                                refine pE_aal rfl hq386 ?_
                                have hk387 : mjRo Z382.2 v381 19 = true := by
                                  by_cases q9 : mjRo Z382.2 v381 19 = true
                                  · exact q9
                                  · rw [if_neg q9] at h; cases h
                                rw [if_pos hk387] at h
                                cases hq388 : g233_append sg v381 v385 Z382 with
                                | none => rw [hq388] at h; cases h
                                | some w =>
                                  obtain ⟨v389, Z390⟩ := w
                                  rw [hq388, mjBq_some] at h
                                  refine pE_callV (k2 := 233) (As := [.ref v385]) (rest := []) rfl rfl rfl rfl rfl rfl hk387 (by decide) (by decide) (by decide) (g233_append_ok hq388) ?_
                                  show pE sg 59 197 888 [some (.ref x0), some (.ref x1), some (.ref x2), some (.ref x3), some (.int x4), some (.ref v351), some (.ref v363), d7] [.ref v389] Z390 _
                                  refine pE_many 1 (pc1 := 890) (L1 := [some (.ref x0), some (.ref x1), some (.ref x2), some (.ref x3), some (.int x4), some (.ref v351), some (.ref v363), d7]) (st1 := [.ref 1000054, .ref v389]) rfl ?_
                                  have hk391 : mjRo Z390.2 v389 19 = true := by
                                    by_cases q9 : mjRo Z390.2 v389 19 = true
                                    · exact q9
                                    · rw [if_neg q9] at h; cases h
                                  rw [if_pos hk391] at h
                                  cases hq392 : g233_append sg v389 1000054 Z390 with
                                  | none => rw [hq392] at h; cases h
                                  | some w =>
                                    obtain ⟨v393, Z394⟩ := w
                                    rw [hq392, mjBq_some] at h
                                    refine pE_callV (k2 := 233) (As := [.ref 1000054]) (rest := []) rfl rfl rfl rfl rfl rfl hk391 (by decide) (by decide) (by decide) (g233_append_ok hq392) ?_
                                    show pE sg 59 197 893 [some (.ref x0), some (.ref x1), some (.ref x2), some (.ref x3), some (.int x4), some (.ref v351), some (.ref v363), d7] [.ref v393] Z394 _
                                    refine pE_many 1 (pc1 := 894) (L1 := [some (.ref x0), some (.ref x1), some (.ref x2), some (.ref x3), some (.int x4), some (.ref v351), some (.ref v363), d7]) (st1 := []) rfl ?_
                                    cases hq396 : qNew sg Z394 (13, 0) with
                                    | none => rw [hq396] at h; cases h
                                    | some w =>
                                      obtain ⟨v395, Z397⟩ := w
                                      rw [hq396, mjBq_some] at h
                                      refine pE_newO rfl rfl (by decide) hq396 ?_
                                      refine pE_many 7 (pc1 := 907) (L1 := [some (.ref x0), some (.ref x1), some (.ref x2), some (.ref x3), some (.int x4), some (.ref v351), some (.ref v363), d7]) (st1 := [.int (100 + (100 * x4)), .ref x1, .ref v395, .ref v395]) rfl ?_
                                      cases hq398 : g183_init sg v395 x1 (100 + (100 * x4)) Z397 with
                                      | none => rw [hq398] at h; cases h
                                      | some w =>
                                        obtain ⟨v399, Z400⟩ := w
                                        rw [hq398, mjBq_some] at h
                                        refine pE_call (k2 := 183) (As := [.ref v395, .ref x1, .int (100 + (100 * x4))]) (rest := [.ref v395]) (w := 3) rfl (by decide) (by decide) (g183_init_ok hq398) ?_
                                        show pE sg 59 197 910 [some (.ref x0), some (.ref x1), some (.ref x2), some (.ref x3), some (.int x4), some (.ref v351), some (.ref v363), d7] [.ref v395] Z400 _
                                        refine pE_many 5 (pc1 := 919) (L1 := [some (.ref x0), some (.ref x1), some (.ref x2), some (.ref x3), some (.int x4), some (.ref v351), some (.ref v363), some (.ref v395)]) (st1 := [.int 0, .ref v363, .ref v395, .ref v351]) rfl ?_
                                        have hk401 : mjRo Z400.2 v395 13 = true := by
                                          by_cases q9 : mjRo Z400.2 v395 13 = true
                                          · exact q9
                                          · rw [if_neg q9] at h; cases h
                                        rw [if_pos hk401] at h
                                        cases hq402 : g192_tc sg v395 v363 0 Z400 with
                                        | none => rw [hq402] at h; cases h
                                        | some w =>
                                          obtain ⟨v403, Z404⟩ := w
                                          rw [hq402, mjBq_some] at h
                                          refine pE_callV (k2 := 192) (As := [.ref v363, .int 0]) (rest := [.ref v351]) rfl rfl rfl rfl rfl rfl hk401 (by decide) (by decide) (by decide) (g192_tc_ok hq402) ?_
                                          show pE sg 59 197 922 [some (.ref x0), some (.ref x1), some (.ref x2), some (.ref x3), some (.int x4), some (.ref v351), some (.ref v363), some (.ref v395)] [.ref v403, .ref v351] Z404 _
                                          cases hq406 : qSr Z404 v351 15 3 (some v403) with
                                          | none => rw [hq406] at h; cases h
                                          | some Z405 =>
                                            rw [hq406, mjBp_some] at h
                                            refine pE_pR (o := some v403) rfl rfl (by decide) (by decide) hq406 ?_
                                            refine pE_many 2 (pc1 := 929) (L1 := [some (.ref x0), some (.ref x1), some (.ref x2), some (.ref x3), some (.int x4), some (.ref v351), some (.ref v363), some (.ref v395)]) (st1 := [.ref v395, .ref v351]) rfl ?_
                                            cases hq408 : qI Z405.2 v395 13 3 with
                                            | none => rw [hq408] at h; cases h
                                            | some v407 =>
                                              rw [hq408, mjBp_some] at h
                                              refine pE_gI rfl rfl hq408 ?_
                                              cases hq410 : qSi Z405 v351 15 1 v407 with
                                              | none => rw [hq410] at h; cases h
                                              | some Z409 =>
                                                rw [hq410, mjBp_some] at h
                                                refine pE_pI rfl rfl (by decide) (by decide) hq410 ?_
                                                refine pE_many 2 (pc1 := 937) (L1 := [some (.ref x0), some (.ref x1), some (.ref x2), some (.ref x3), some (.int x4), some (.ref v351), some (.ref v363), some (.ref v395)]) (st1 := [.int 2, .ref x0]) rfl ?_
                                                have hk411 : mjRo Z409.2 x0 16 = true := by
                                                  by_cases q9 : mjRo Z409.2 x0 16 = true
                                                  · exact q9
                                                  · rw [if_neg q9] at h; cases h
                                                rw [if_pos hk411] at h
                                                cases hq412 : g195_next sg x0 2 Z409 with
                                                | none => rw [hq412] at h; cases h
                                                | some w =>
                                                  obtain ⟨v413, Z414⟩ := w
                                                  rw [hq412, mjBq_some] at h
                                                  refine pE_callV (k2 := 195) (As := [.int 2]) (rest := []) rfl rfl rfl rfl rfl rfl hk411 (by decide) (by decide) (by decide) (g195_next_ok hq412) ?_
                                                  show pE sg 59 197 940 [some (.ref x0), some (.ref x1), some (.ref x2), some (.ref x3), some (.int x4), some (.ref v351), some (.ref v363), some (.ref v395)] [.int v413] Z414 _
                                                  by_cases hc415 : mjCmp .ne v413 0 = true
                                                  · rw [if_pos hc415] at h
                                                    refine pE_ift (t := 993) rfl rfl hc415 ?_
                                                    exact g197_init_j993_ok (g197_init_h820 sg n) (fun x0 x1 x2 x3 x4 d5 d6 d7 Z v9 Z9 h => g197_init_h820_ok n x0 x1 x2 x3 x4 d5 d6 d7 Z v9 Z9 h) x0 x1 x2 x3 x4 v351 v363 (some (.ref v395)) Z414 v9 Z9 h
                                                  · rw [if_neg hc415] at h
                                                    refine pE_iff (t := 993) rfl rfl hc415 ?_
                                                    refine pE_many 2 (pc1 := 947) (L1 := [some (.ref x0), some (.ref x1), some (.ref x2), some (.ref x3), some (.int x4), some (.ref v351), some (.ref v363), some (.ref v395)]) (st1 := [.ref 1000055, .ref v363]) rfl ?_
                                                    have hk442 : mjRo Z414.2 v363 19 = true := by
                                                      by_cases q9 : mjRo Z414.2 v363 19 = true
                                                      · exact q9
                                                      · rw [if_neg q9] at h; cases h
                                                    rw [if_pos hk442] at h
                                                    cases hq443 : g233_append sg v363 1000055 Z414 with
                                                    | none => rw [hq443] at h; cases h
                                                    | some w =>
                                                      obtain ⟨v444, Z445⟩ := w
                                                      rw [hq443, mjBq_some] at h
                                                      refine pE_callV (k2 := 233) (As := [.ref 1000055]) (rest := []) rfl rfl rfl rfl rfl rfl hk442 (by decide) (by decide) (by decide) (g233_append_ok hq443) ?_
                                                      show pE sg 59 197 950 [some (.ref x0), some (.ref x1), some (.ref x2), some (.ref x3), some (.int x4), some (.ref v351), some (.ref v363), some (.ref v395)] [.ref v444] Z445 _
                                                      refine pE_many 1 (pc1 := 951) (L1 := [some (.ref x0), some (.ref x1), some (.ref x2), some (.ref x3), some (.int x4), some (.ref v351), some (.ref v363), some (.ref v395)]) (st1 := []) rfl ?_
                                                      cases hq447 : qNew sg Z445 (13, 0) with
                                                      | none => rw [hq447] at h; cases h
                                                      | some w =>
                                                        obtain ⟨v446, Z448⟩ := w
                                                        rw [hq447, mjBq_some] at h
                                                        refine pE_newO rfl rfl (by decide) hq447 ?_
                                                        refine pE_many 7 (pc1 := 965) (L1 := [some (.ref x0), some (.ref x1), some (.ref x2), some (.ref x3), some (.int x4), some (.ref v351), some (.ref v363), some (.ref v395)]) (st1 := [.int (150 + (100 * x4)), .ref x1, .ref v446, .ref v446]) rfl ?_
                                                        cases hq449 : g183_init sg v446 x1 (150 + (100 * x4)) Z448 with
                                                        | none => rw [hq449] at h; cases h
                                                        | some w =>
                                                          obtain ⟨v450, Z451⟩ := w
                                                          rw [hq449, mjBq_some] at h
                                                          refine pE_call (k2 := 183) (As := [.ref v446, .ref x1, .int (150 + (100 * x4))]) (rest := [.ref v446]) (w := 3) rfl (by decide) (by decide) (g183_init_ok hq449) ?_
                                                          show pE sg 59 197 968 [some (.ref x0), some (.ref x1), some (.ref x2), some (.ref x3), some (.int x4), some (.ref v351), some (.ref v363), some (.ref v395)] [.ref v446] Z451 _
                                                          refine pE_many 5 (pc1 := 977) (L1 := [some (.ref x0), some (.ref x1), some (.ref x2), some (.ref x3), some (.int x4), some (.ref v351), some (.ref v363), some (.ref v446)]) (st1 := [.int 0, .ref v363, .ref v446, .ref v351]) rfl ?_
                                                          have hk452 : mjRo Z451.2 v446 13 = true := by
                                                            by_cases q9 : mjRo Z451.2 v446 13 = true
                                                            · exact q9
                                                            · rw [if_neg q9] at h; cases h
                                                          rw [if_pos hk452] at h
                                                          cases hq453 : g192_tc sg v446 v363 0 Z451 with
                                                          | none => rw [hq453] at h; cases h
                                                          | some w =>
                                                            obtain ⟨v454, Z455⟩ := w
                                                            rw [hq453, mjBq_some] at h
                                                            refine pE_callV (k2 := 192) (As := [.ref v363, .int 0]) (rest := [.ref v351]) rfl rfl rfl rfl rfl rfl hk452 (by decide) (by decide) (by decide) (g192_tc_ok hq453) ?_
                                                            show pE sg 59 197 980 [some (.ref x0), some (.ref x1), some (.ref x2), some (.ref x3), some (.int x4), some (.ref v351), some (.ref v363), some (.ref v446)] [.ref v454, .ref v351] Z455 _
                                                            cases hq457 : qSr Z455 v351 15 4 (some v454) with
                                                            | none => rw [hq457] at h; cases h
                                                            | some Z456 =>
                                                              rw [hq457, mjBp_some] at h
                                                              refine pE_pR (o := some v454) rfl rfl (by decide) (by decide) hq457 ?_
                                                              refine pE_many 2 (pc1 := 987) (L1 := [some (.ref x0), some (.ref x1), some (.ref x2), some (.ref x3), some (.int x4), some (.ref v351), some (.ref v363), some (.ref v446)]) (st1 := [.ref v446, .ref v351]) rfl ?_
                                                              cases hq459 : qI Z456.2 v446 13 3 with
                                                              | none => rw [hq459] at h; cases h
                                                              | some v458 =>
                                                                rw [hq459, mjBp_some] at h
                                                                refine pE_gI rfl rfl hq459 ?_
                                                                cases hq461 : qSi Z456 v351 15 2 v458 with
                                                                | none => rw [hq461] at h; cases h
                                                                | some Z460 =>
                                                                  rw [hq461, mjBp_some] at h
                                                                  refine pE_pI rfl rfl (by decide) (by decide) hq461 ?_
                                                                  exact g197_init_j993_ok (g197_init_h820 sg n) (fun x0 x1 x2 x3 x4 d5 d6 d7 Z v9 Z9 h => g197_init_h820_ok n x0 x1 x2 x3 x4 d5 d6 d7 Z v9 Z9 h) x0 x1 x2 x3 x4 v351 v363 (some (.ref v446)) Z460 v9 Z9 h
def g197_init_j752 (sg : Nat → Nat) (R : Nat → Nat → Nat → Nat → Int32 → mjQ → Option (Unit × mjQ)) (x0 : Nat) (x1 : Nat) (x2 : Nat) (x3 : Nat) (x4 : Int32) (x5 : Nat) (Z : mjQ) : Option (Unit × mjQ) :=
  if mjRo Z.2 x2 19 = true then
  mjBq (g233_append sg x2 1000042 Z) fun v531 Z532 =>
  mjBp (qI Z532.2 x5 12 3) fun v533 =>
  if mjRo Z532.2 v531 19 = true then
  mjBq (g230_append sg v531 v533 Z532) fun v537 Z538 =>
  if mjRo Z538.2 v537 19 = true then
  mjBq (g233_append sg v537 1000042 Z538) fun v541 Z542 =>
  mjBp (qI Z542.2 x5 12 4) fun v543 =>
  if mjRo Z542.2 v541 19 = true then
  mjBq (g230_append sg v541 v543 Z542) fun v547 Z548 =>
  if mjRo Z548.2 v547 19 = true then
  mjBq (g233_append sg v547 1000043 Z548) fun v551 Z552 =>
  mjBp (qR Z552.2 x0 16 10) fun v553 =>
  if mjRo Z552.2 v553 20 = true then
  mjBq (g240_add sg v553 x5 Z552) fun v557 Z558 =>
  mjBp (qI Z558.2 x0 16 7) fun v559 =>
  mjBp (qSi Z558 x0 16 7 (v559 + 1)) fun Z561 =>
  R x0 x1 x2 x3 (x4 + (-1)) Z561
  else none
  else none
  else none
  else none
  else none
  else none
set_option maxRecDepth 100000 in
theorem g197_init_j752_ok {sg : Nat → Nat} (R : Nat → Nat → Nat → Nat → Int32 → mjQ → Option (Unit × mjQ)) (hR : ∀ (x0 : Nat) (x1 : Nat) (x2 : Nat) (x3 : Nat) (x4 : Int32) (d5 d6 d7 : Option Value) (Z : mjQ) (v9 : Unit) (Z9 : mjQ), R x0 x1 x2 x3 x4 Z = some (v9, Z9) → pE sg 59 197 574 [some (.ref x0), some (.ref x1), some (.ref x2), some (.ref x3), some (.int x4), d5, d6, d7] [] Z (fun r M1 => r = none ∧ M1 = Z9)) (x0 : Nat) (x1 : Nat) (x2 : Nat) (x3 : Nat) (x4 : Int32) (x5 : Nat) (d6 d7 : Option Value) (Z : mjQ) (v9 : Unit) (Z9 : mjQ) (h : g197_init_j752 sg R x0 x1 x2 x3 x4 x5 Z = some (v9, Z9)) : pE sg 59 197 752 [some (.ref x0), some (.ref x1), some (.ref x2), some (.ref x3), some (.int x4), some (.ref x5), d6, d7] [] Z (fun r M1 => r = none ∧ M1 = Z9) := by
  unfold g197_init_j752 at h
  refine pE_many 2 (pc1 := 755) (L1 := [some (.ref x0), some (.ref x1), some (.ref x2), some (.ref x3), some (.int x4), some (.ref x5), d6, d7]) (st1 := [.ref 1000042, .ref x2]) rfl ?_
  have hk529 : mjRo Z.2 x2 19 = true := by
    by_cases q9 : mjRo Z.2 x2 19 = true
    · exact q9
    · rw [if_neg q9] at h; cases h
  rw [if_pos hk529] at h
  cases hq530 : g233_append sg x2 1000042 Z with
  | none => rw [hq530] at h; cases h
  | some w =>
    obtain ⟨v531, Z532⟩ := w
    rw [hq530, mjBq_some] at h
    refine pE_callV (k2 := 233) (As := [.ref 1000042]) (rest := []) rfl rfl rfl rfl rfl rfl hk529 (by decide) (by decide) (by decide) (g233_append_ok hq530) ?_
    show pE sg 59 197 758 [some (.ref x0), some (.ref x1), some (.ref x2), some (.ref x3), some (.int x4), some (.ref x5), d6, d7] [.ref v531] Z532 _
    refine pE_many 1 (pc1 := 760) (L1 := [some (.ref x0), some (.ref x1), some (.ref x2), some (.ref x3), some (.int x4), some (.ref x5), d6, d7]) (st1 := [.ref x5, .ref v531]) rfl ?_
    cases hq534 : qI Z532.2 x5 12 3 with
    | none => rw [hq534] at h; cases h
    | some v533 =>
      rw [hq534, mjBp_some] at h
      refine pE_gI rfl rfl hq534 ?_
      have hk535 : mjRo Z532.2 v531 19 = true := by
        by_cases q9 : mjRo Z532.2 v531 19 = true
        · exact q9
        · rw [if_neg q9] at h; cases h
      rw [if_pos hk535] at h
      cases hq536 : g230_append sg v531 v533 Z532 with
      | none => rw [hq536] at h; cases h
      | some w =>
        obtain ⟨v537, Z538⟩ := w
        rw [hq536, mjBq_some] at h
        refine pE_callV (k2 := 230) (As := [.int v533]) (rest := []) rfl rfl rfl rfl rfl rfl hk535 (by decide) (by decide) (by decide) (g230_append_ok hq536) ?_
        show pE sg 59 197 766 [some (.ref x0), some (.ref x1), some (.ref x2), some (.ref x3), some (.int x4), some (.ref x5), d6, d7] [.ref v537] Z538 _
        refine pE_many 1 (pc1 := 768) (L1 := [some (.ref x0), some (.ref x1), some (.ref x2), some (.ref x3), some (.int x4), some (.ref x5), d6, d7]) (st1 := [.ref 1000042, .ref v537]) rfl ?_
        have hk539 : mjRo Z538.2 v537 19 = true := by
          by_cases q9 : mjRo Z538.2 v537 19 = true
          · exact q9
          · rw [if_neg q9] at h; cases h
        rw [if_pos hk539] at h
        cases hq540 : g233_append sg v537 1000042 Z538 with
        | none => rw [hq540] at h; cases h
        | some w =>
          obtain ⟨v541, Z542⟩ := w
          rw [hq540, mjBq_some] at h
          refine pE_callV (k2 := 233) (As := [.ref 1000042]) (rest := []) rfl rfl rfl rfl rfl rfl hk539 (by decide) (by decide) (by decide) (g233_append_ok hq540) ?_
          show pE sg 59 197 771 [some (.ref x0), some (.ref x1), some (.ref x2), some (.ref x3), some (.int x4), some (.ref x5), d6, d7] [.ref v541] Z542 _
          refine pE_many 1 (pc1 := 773) (L1 := [some (.ref x0), some (.ref x1), some (.ref x2), some (.ref x3), some (.int x4), some (.ref x5), d6, d7]) (st1 := [.ref x5, .ref v541]) rfl ?_
          cases hq544 : qI Z542.2 x5 12 4 with
          | none => rw [hq544] at h; cases h
          | some v543 =>
            rw [hq544, mjBp_some] at h
            refine pE_gI rfl rfl hq544 ?_
            have hk545 : mjRo Z542.2 v541 19 = true := by
              by_cases q9 : mjRo Z542.2 v541 19 = true
              · exact q9
              · rw [if_neg q9] at h; cases h
            rw [if_pos hk545] at h
            cases hq546 : g230_append sg v541 v543 Z542 with
            | none => rw [hq546] at h; cases h
            | some w =>
              obtain ⟨v547, Z548⟩ := w
              rw [hq546, mjBq_some] at h
              refine pE_callV (k2 := 230) (As := [.int v543]) (rest := []) rfl rfl rfl rfl rfl rfl hk545 (by decide) (by decide) (by decide) (g230_append_ok hq546) ?_
              show pE sg 59 197 779 [some (.ref x0), some (.ref x1), some (.ref x2), some (.ref x3), some (.int x4), some (.ref x5), d6, d7] [.ref v547] Z548 _
              refine pE_many 1 (pc1 := 781) (L1 := [some (.ref x0), some (.ref x1), some (.ref x2), some (.ref x3), some (.int x4), some (.ref x5), d6, d7]) (st1 := [.ref 1000043, .ref v547]) rfl ?_
              have hk549 : mjRo Z548.2 v547 19 = true := by
                by_cases q9 : mjRo Z548.2 v547 19 = true
                · exact q9
                · rw [if_neg q9] at h; cases h
              rw [if_pos hk549] at h
              cases hq550 : g233_append sg v547 1000043 Z548 with
              | none => rw [hq550] at h; cases h
              | some w =>
                obtain ⟨v551, Z552⟩ := w
                rw [hq550, mjBq_some] at h
                refine pE_callV (k2 := 233) (As := [.ref 1000043]) (rest := []) rfl rfl rfl rfl rfl rfl hk549 (by decide) (by decide) (by decide) (g233_append_ok hq550) ?_
                show pE sg 59 197 784 [some (.ref x0), some (.ref x1), some (.ref x2), some (.ref x3), some (.int x4), some (.ref x5), d6, d7] [.ref v551] Z552 _
                refine pE_many 2 (pc1 := 786) (L1 := [some (.ref x0), some (.ref x1), some (.ref x2), some (.ref x3), some (.int x4), some (.ref x5), d6, d7]) (st1 := [.ref x0]) rfl ?_
                cases hq554 : qR Z552.2 x0 16 10 with
                | none => rw [hq554] at h; cases h
                | some v553 =>
                  rw [hq554, mjBp_some] at h
                  refine pE_gR rfl rfl hq554 ?_
                  refine pE_many 1 (pc1 := 791) (L1 := [some (.ref x0), some (.ref x1), some (.ref x2), some (.ref x3), some (.int x4), some (.ref x5), d6, d7]) (st1 := [.ref x5, .ref v553]) rfl ?_
                  have hk555 : mjRo Z552.2 v553 20 = true := by
                    by_cases q9 : mjRo Z552.2 v553 20 = true
                    · exact q9
                    · rw [if_neg q9] at h; cases h
                  rw [if_pos hk555] at h
                  cases hq556 : g240_add sg v553 x5 Z552 with
                  | none => rw [hq556] at h; cases h
                  | some w =>
                    obtain ⟨v557, Z558⟩ := w
                    rw [hq556, mjBq_some] at h
                    refine pE_callI (k2 := 240) (As := [.ref x5]) (rest := []) rfl rfl rfl rfl rfl rfl hk555 (by decide) (by decide) (by decide) (g240_add_ok hq556) ?_
                    show pE sg 59 197 796 [some (.ref x0), some (.ref x1), some (.ref x2), some (.ref x3), some (.int x4), some (.ref x5), d6, d7] [.int v557] Z558 _
                    refine pE_many 3 (pc1 := 799) (L1 := [some (.ref x0), some (.ref x1), some (.ref x2), some (.ref x3), some (.int x4), some (.ref x5), d6, d7]) (st1 := [.ref x0, .ref x0]) rfl ?_
                    cases hq560 : qI Z558.2 x0 16 7 with
                    | none => rw [hq560] at h; cases h
                    | some v559 =>
                      rw [hq560, mjBp_some] at h
                      refine pE_gI rfl rfl hq560 ?_
                      refine pE_many 2 (pc1 := 804) (L1 := [some (.ref x0), some (.ref x1), some (.ref x2), some (.ref x3), some (.int x4), some (.ref x5), d6, d7]) (st1 := [.int (v559 + 1), .ref x0]) rfl ?_
                      cases hq562 : qSi Z558 x0 16 7 (v559 + 1) with
                      | none => rw [hq562] at h; cases h
                      | some Z561 =>
                        rw [hq562, mjBp_some] at h
                        refine pE_pI rfl rfl (by decide) (by decide) hq562 ?_
                        refine pE_many 2 (pc1 := 574) (L1 := [some (.ref x0), some (.ref x1), some (.ref x2), some (.ref x3), some (.int (x4 + (-1))), some (.ref x5), d6, d7]) (st1 := []) rfl ?_
                        exact hR x0 x1 x2 x3 (x4 + (-1)) (some (.ref x5)) d6 d7 Z561 v9 Z9 h
def g197_init_j665 (sg : Nat → Nat) (R : Nat → Nat → Nat → Nat → Int32 → mjQ → Option (Unit × mjQ)) (x0 : Nat) (x1 : Nat) (x2 : Nat) (x3 : Nat) (x4 : Int32) (x5 : Nat) (s0 : Nat) (s1 : Int32) (Z : mjQ) : Option (Unit × mjQ) :=
  mjBp (qSi Z s0 12 2 s1) fun Z490 =>
  if mjRo Z490.2 x0 16 = true then
  mjBq (g195_next sg x0 400 Z490) fun v494 Z495 =>
  mjBp (qSi Z495 x5 12 3 v494) fun Z496 =>
  if mjRo Z496.2 x0 16 = true then
  mjBq (g195_next sg x0 20 Z496) fun v500 Z501 =>
  mjBp (qSi Z501 x5 12 4 v500) fun Z502 =>
  if mjRo Z502.2 x2 19 = true then
  mjBq (g233_append sg x2 1000051 Z502) fun v506 Z507 =>
  mjBp (qI Z507.2 x5 12 0) fun v508 =>
  mjBp (qAa Z507.2 x3 v508) fun v510 =>
  if mjRo Z507.2 v506 19 = true then
  mjBq (g233_append sg v506 v510 Z507) fun v514 Z515 =>
  if mjRo Z515.2 v514 19 = true then
  mjBq (g233_append sg v514 1000052 Z515) fun v518 Z519 =>
  mjBp (qI Z519.2 x5 12 1) fun v520 =>
  if mjRo Z519.2 v518 19 = true then
  mjBq (g229_append sg v518 (((97 + v520).toUInt32 % 65536).toInt32) Z519) fun v524 Z525 =>
  mjBp (qI Z525.2 x5 12 2) fun v526 =>
  if mjCmp .lt v526 0 = true then
    g197_init_j752 sg R x0 x1 x2 x3 x4 x5 Z525
  else
    if mjRo Z525.2 x2 19 = true then
    mjBq (g233_append sg x2 1000052 Z525) fun v565 Z566 =>
    mjBp (qI Z566.2 x5 12 2) fun v567 =>
    if mjRo Z566.2 v565 19 = true then
    mjBq (g229_append sg v565 (((97 + v567).toUInt32 % 65536).toInt32) Z566) fun v571 Z572 =>
    g197_init_j752 sg R x0 x1 x2 x3 x4 x5 Z572
    else none
    else none
  else none
  else none
  else none
  else none
  else none
  else none
set_option maxRecDepth 100000 in
theorem g197_init_j665_ok {sg : Nat → Nat} (R : Nat → Nat → Nat → Nat → Int32 → mjQ → Option (Unit × mjQ)) (hR : ∀ (x0 : Nat) (x1 : Nat) (x2 : Nat) (x3 : Nat) (x4 : Int32) (d5 d6 d7 : Option Value) (Z : mjQ) (v9 : Unit) (Z9 : mjQ), R x0 x1 x2 x3 x4 Z = some (v9, Z9) → pE sg 59 197 574 [some (.ref x0), some (.ref x1), some (.ref x2), some (.ref x3), some (.int x4), d5, d6, d7] [] Z (fun r M1 => r = none ∧ M1 = Z9)) (x0 : Nat) (x1 : Nat) (x2 : Nat) (x3 : Nat) (x4 : Int32) (x5 : Nat) (s0 : Nat) (s1 : Int32) (d6 d7 : Option Value) (Z : mjQ) (v9 : Unit) (Z9 : mjQ) (h : g197_init_j665 sg R x0 x1 x2 x3 x4 x5 s0 s1 Z = some (v9, Z9)) : pE sg 59 197 665 [some (.ref x0), some (.ref x1), some (.ref x2), some (.ref x3), some (.int x4), some (.ref x5), d6, d7] [.int s1, .ref s0] Z (fun r M1 => r = none ∧ M1 = Z9) := by
  unfold g197_init_j665 at h
  cases hq491 : qSi Z s0 12 2 s1 with
  | none => rw [hq491] at h; cases h
  | some Z490 =>
    rw [hq491, mjBp_some] at h
    refine pE_pI rfl rfl (by decide) (by decide) hq491 ?_
    refine pE_many 3 (pc1 := 674) (L1 := [some (.ref x0), some (.ref x1), some (.ref x2), some (.ref x3), some (.int x4), some (.ref x5), d6, d7]) (st1 := [.int 400, .ref x0, .ref x5]) rfl ?_
    have hk492 : mjRo Z490.2 x0 16 = true := by
      by_cases q9 : mjRo Z490.2 x0 16 = true
      · exact q9
      · rw [if_neg q9] at h; cases h
    rw [if_pos hk492] at h
    cases hq493 : g195_next sg x0 400 Z490 with
    | none => rw [hq493] at h; cases h
    | some w =>
      obtain ⟨v494, Z495⟩ := w
      rw [hq493, mjBq_some] at h
      refine pE_callV (k2 := 195) (As := [.int 400]) (rest := [.ref x5]) rfl rfl rfl rfl rfl rfl hk492 (by decide) (by decide) (by decide) (g195_next_ok hq493) ?_
      show pE sg 59 197 677 [some (.ref x0), some (.ref x1), some (.ref x2), some (.ref x3), some (.int x4), some (.ref x5), d6, d7] [.int v494, .ref x5] Z495 _
      cases hq497 : qSi Z495 x5 12 3 v494 with
      | none => rw [hq497] at h; cases h
      | some Z496 =>
        rw [hq497, mjBp_some] at h
        refine pE_pI rfl rfl (by decide) (by decide) hq497 ?_
        refine pE_many 3 (pc1 := 685) (L1 := [some (.ref x0), some (.ref x1), some (.ref x2), some (.ref x3), some (.int x4), some (.ref x5), d6, d7]) (st1 := [.int 20, .ref x0, .ref x5]) rfl ?_
        have hk498 : mjRo Z496.2 x0 16 = true := by
          by_cases q9 : mjRo Z496.2 x0 16 = true
          · exact q9
          · rw [if_neg q9] at h; cases h
        rw [if_pos hk498] at h
        cases hq499 : g195_next sg x0 20 Z496 with
        | none => rw [hq499] at h; cases h
        | some w =>
          obtain ⟨v500, Z501⟩ := w
          rw [hq499, mjBq_some] at h
          refine pE_callV (k2 := 195) (As := [.int 20]) (rest := [.ref x5]) rfl rfl rfl rfl rfl rfl hk498 (by decide) (by decide) (by decide) (g195_next_ok hq499) ?_
          show pE sg 59 197 688 [some (.ref x0), some (.ref x1), some (.ref x2), some (.ref x3), some (.int x4), some (.ref x5), d6, d7] [.int v500, .ref x5] Z501 _
          cases hq503 : qSi Z501 x5 12 4 v500 with
          | none => rw [hq503] at h; cases h
          | some Z502 =>
            rw [hq503, mjBp_some] at h
            refine pE_pI rfl rfl (by decide) (by decide) hq503 ?_
            refine pE_many 2 (pc1 := 694) (L1 := [some (.ref x0), some (.ref x1), some (.ref x2), some (.ref x3), some (.int x4), some (.ref x5), d6, d7]) (st1 := [.ref 1000051, .ref x2]) rfl ?_
            have hk504 : mjRo Z502.2 x2 19 = true := by
              by_cases q9 : mjRo Z502.2 x2 19 = true
              · exact q9
              · rw [if_neg q9] at h; cases h
            rw [if_pos hk504] at h
            cases hq505 : g233_append sg x2 1000051 Z502 with
            | none => rw [hq505] at h; cases h
            | some w =>
              obtain ⟨v506, Z507⟩ := w
              rw [hq505, mjBq_some] at h
              refine pE_callV (k2 := 233) (As := [.ref 1000051]) (rest := []) rfl rfl rfl rfl rfl rfl hk504 (by decide) (by decide) (by decide) (g233_append_ok hq505) ?_
              show pE sg 59 197 697 [some (.ref x0), some (.ref x1), some (.ref x2), some (.ref x3), some (.int x4), some (.ref x5), d6, d7] [.ref v506] Z507 _
              refine pE_many 2 (pc1 := 700) (L1 := [some (.ref x0), some (.ref x1), some (.ref x2), some (.ref x3), some (.int x4), some (.ref x5), d6, d7]) (st1 := [.ref x5, .ref x3, .ref v506]) rfl ?_
              cases hq509 : qI Z507.2 x5 12 0 with
              | none => rw [hq509] at h; cases h
              | some v508 =>
                rw [hq509, mjBp_some] at h
                refine pE_gI rfl rfl hq509 ?_
                cases hq511 : qAa Z507.2 x3 v508 with
                | none => rw [hq511] at h; cases h
                | some v510 =>
                  rw [hq511, mjBp_some] at h
                  refine pE_aal rfl hq511 ?_
                  have hk512 : mjRo Z507.2 v506 19 = true := by
                    by_cases q9 : mjRo Z507.2 v506 19 = true
                    · exact q9
                    · rw [if_neg q9] at h; cases h
                  rw [if_pos hk512] at h
                  cases hq513 : g233_append sg v506 v510 Z507 with
                  | none => rw [hq513] at h; cases h
                  | some w =>
                    obtain ⟨v514, Z515⟩ := w
                    rw [hq513, mjBq_some] at h
                    refine pE_callV (k2 := 233) (As := [.ref v510]) (rest := []) rfl rfl rfl rfl rfl rfl hk512 (by decide) (by decide) (by decide) (g233_append_ok hq513) ?_
                    show pE sg 59 197 707 [some (.ref x0), some (.ref x1), some (.ref x2), some (.ref x3), some (.int x4), some (.ref x5), d6, d7] [.ref v514] Z515 _
                    refine pE_many 1 (pc1 := 709) (L1 := [some (.ref x0), some (.ref x1), some (.ref x2), some (.ref x3), some (.int x4), some (.ref x5), d6, d7]) (st1 := [.ref 1000052, .ref v514]) rfl ?_
                    have hk516 : mjRo Z515.2 v514 19 = true := by
                      by_cases q9 : mjRo Z515.2 v514 19 = true
                      · exact q9
                      · rw [if_neg q9] at h; cases h
                    rw [if_pos hk516] at h
                    cases hq517 : g233_append sg v514 1000052 Z515 with
                    | none => rw [hq517] at h; cases h
                    | some w =>
                      obtain ⟨v518, Z519⟩ := w
                      rw [hq517, mjBq_some] at h
                      refine pE_callV (k2 := 233) (As := [.ref 1000052]) (rest := []) rfl rfl rfl rfl rfl rfl hk516 (by decide) (by decide) (by decide) (g233_append_ok hq517) ?_
                      show pE sg 59 197 712 [some (.ref x0), some (.ref x1), some (.ref x2), some (.ref x3), some (.int x4), some (.ref x5), d6, d7] [.ref v518] Z519 _
                      refine pE_many 2 (pc1 := 716) (L1 := [some (.ref x0), some (.ref x1), some (.ref x2), some (.ref x3), some (.int x4), some (.ref x5), d6, d7]) (st1 := [.ref x5, .int 97, .ref v518]) rfl ?_
                      cases hq521 : qI Z519.2 x5 12 1 with
                      | none => rw [hq521] at h; cases h
                      | some v520 =>
                        rw [hq521, mjBp_some] at h
                        refine pE_gI rfl rfl hq521 ?_
                        refine pE_many 2 (pc1 := 721) (L1 := [some (.ref x0), some (.ref x1), some (.ref x2), some (.ref x3), some (.int x4), some (.ref x5), d6, d7]) (st1 := [.int (((97 + v520).toUInt32 % 65536).toInt32), .ref v518]) rfl ?_
                        have hk522 : mjRo Z519.2 v518 19 = true := by
                          by_cases q9 : mjRo Z519.2 v518 19 = true
                          · exact q9
                          · rw [if_neg q9] at h; cases h
                        rw [if_pos hk522] at h
                        cases hq523 : g229_append sg v518 (((97 + v520).toUInt32 % 65536).toInt32) Z519 with
                        | none => rw [hq523] at h; cases h
                        | some w =>
                          obtain ⟨v524, Z525⟩ := w
                          rw [hq523, mjBq_some] at h
                          refine pE_callV (k2 := 229) (As := [.int (((97 + v520).toUInt32 % 65536).toInt32)]) (rest := []) rfl rfl rfl rfl rfl rfl hk522 (by decide) (by decide) (by decide) (g229_append_ok hq523) ?_
                          show pE sg 59 197 724 [some (.ref x0), some (.ref x1), some (.ref x2), some (.ref x3), some (.int x4), some (.ref x5), d6, d7] [.ref v524] Z525 _
                          refine pE_many 2 (pc1 := 727) (L1 := [some (.ref x0), some (.ref x1), some (.ref x2), some (.ref x3), some (.int x4), some (.ref x5), d6, d7]) (st1 := [.ref x5]) rfl ?_
                          cases hq527 : qI Z525.2 x5 12 2 with
                          | none => rw [hq527] at h; cases h
                          | some v526 =>
                            rw [hq527, mjBp_some] at h
                            refine pE_gI rfl rfl hq527 ?_
                            by_cases hc528 : mjCmp .lt v526 0 = true
                            · rw [if_pos hc528] at h
                              refine pE_ift (t := 752) rfl rfl hc528 ?_
                              exact g197_init_j752_ok R hR x0 x1 x2 x3 x4 x5 d6 d7 Z525 v9 Z9 h
                            · rw [if_neg hc528] at h
                              refine pE_iff (t := 752) rfl rfl hc528 ?_
                              refine pE_many 2 (pc1 := 736) (L1 := [some (.ref x0), some (.ref x1), some (.ref x2), some (.ref x3), some (.int x4), some (.ref x5), d6, d7]) (st1 := [.ref 1000052, .ref x2]) rfl ?_
                              have hk563 : mjRo Z525.2 x2 19 = true := by
                                by_cases q9 : mjRo Z525.2 x2 19 = true
                                · exact q9
                                · rw [if_neg q9] at h; cases h
                              rw [if_pos hk563] at h
                              cases hq564 : g233_append sg x2 1000052 Z525 with
                              | none => rw [hq564] at h; cases h
                              | some w =>
                                obtain ⟨v565, Z566⟩ := w
                                rw [hq564, mjBq_some] at h
                                refine pE_callV (k2 := 233) (As := [.ref 1000052]) (rest := []) rfl rfl rfl rfl rfl rfl hk563 (by decide) (by decide) (by decide) (g233_append_ok hq564) ?_
                                show pE sg 59 197 739 [some (.ref x0), some (.ref x1), some (.ref x2), some (.ref x3), some (.int x4), some (.ref x5), d6, d7] [.ref v565] Z566 _
                                refine pE_many 2 (pc1 := 743) (L1 := [some (.ref x0), some (.ref x1), some (.ref x2), some (.ref x3), some (.int x4), some (.ref x5), d6, d7]) (st1 := [.ref x5, .int 97, .ref v565]) rfl ?_
                                cases hq568 : qI Z566.2 x5 12 2 with
                                | none => rw [hq568] at h; cases h
                                | some v567 =>
                                  rw [hq568, mjBp_some] at h
                                  refine pE_gI rfl rfl hq568 ?_
                                  refine pE_many 2 (pc1 := 748) (L1 := [some (.ref x0), some (.ref x1), some (.ref x2), some (.ref x3), some (.int x4), some (.ref x5), d6, d7]) (st1 := [.int (((97 + v567).toUInt32 % 65536).toInt32), .ref v565]) rfl ?_
                                  have hk569 : mjRo Z566.2 v565 19 = true := by
                                    by_cases q9 : mjRo Z566.2 v565 19 = true
                                    · exact q9
                                    · rw [if_neg q9] at h; cases h
                                  rw [if_pos hk569] at h
                                  cases hq570 : g229_append sg v565 (((97 + v567).toUInt32 % 65536).toInt32) Z566 with
                                  | none => rw [hq570] at h; cases h
                                  | some w =>
                                    obtain ⟨v571, Z572⟩ := w
                                    rw [hq570, mjBq_some] at h
                                    refine pE_callV (k2 := 229) (As := [.int (((97 + v567).toUInt32 % 65536).toInt32)]) (rest := []) rfl rfl rfl rfl rfl rfl hk569 (by decide) (by decide) (by decide) (g229_append_ok hq570) ?_
                                    show pE sg 59 197 751 [some (.ref x0), some (.ref x1), some (.ref x2), some (.ref x3), some (.int x4), some (.ref x5), d6, d7] [.ref v571] Z572 _
                                    refine pE_many 1 (pc1 := 752) (L1 := [some (.ref x0), some (.ref x1), some (.ref x2), some (.ref x3), some (.int x4), some (.ref x5), d6, d7]) (st1 := []) rfl ?_
                                    exact g197_init_j752_ok R hR x0 x1 x2 x3 x4 x5 d6 d7 Z572 v9 Z9 h
def g197_init_j611 (sg : Nat → Nat) (R : Nat → Nat → Nat → Nat → Int32 → mjQ → Option (Unit × mjQ)) (x0 : Nat) (x1 : Nat) (x2 : Nat) (x3 : Nat) (x4 : Int32) (x5 : Nat) (s0 : Nat) (s1 : Int32) (Z : mjQ) : Option (Unit × mjQ) :=
  mjBp (qSi Z s0 12 0 s1) fun Z476 =>
  if mjRo Z476.2 x0 16 = true then
  mjBp (g196_teams x0 Z476) fun v480 =>
  mjBq (g195_next sg x0 v480 Z476) fun v483 Z484 =>
  mjBp (qSi Z484 x5 12 1 v483) fun Z485 =>
  mjBp (qI Z485.2 x5 12 0) fun v487 =>
  if mjCmp .ne v487 3 = true then
    g197_init_j665 sg R x0 x1 x2 x3 x4 x5 x5 ((-1)) Z485
  else
    mjBp (qI Z485.2 x5 12 1) fun v573 =>
    if mjRo Z485.2 x0 16 = true then
    mjBp (g196_teams x0 Z485) fun v577 =>
    mjBq (g195_next sg x0 (v577 - 1) Z485) fun v580 Z581 =>
    if mjRo Z581.2 x0 16 = true then
    mjBp (g196_teams x0 Z581) fun v584 =>
    if ¬ v584 = 0 then
    g197_init_j665 sg R x0 x1 x2 x3 x4 x5 x5 (((v573 + 1) + v580) - ((v573 + 1) + v580) / v584 * v584) Z581
    else none
    else none
    else none
  else none
set_option maxRecDepth 100000 in
theorem g197_init_j611_ok {sg : Nat → Nat} (R : Nat → Nat → Nat → Nat → Int32 → mjQ → Option (Unit × mjQ)) (hR : ∀ (x0 : Nat) (x1 : Nat) (x2 : Nat) (x3 : Nat) (x4 : Int32) (d5 d6 d7 : Option Value) (Z : mjQ) (v9 : Unit) (Z9 : mjQ), R x0 x1 x2 x3 x4 Z = some (v9, Z9) → pE sg 59 197 574 [some (.ref x0), some (.ref x1), some (.ref x2), some (.ref x3), some (.int x4), d5, d6, d7] [] Z (fun r M1 => r = none ∧ M1 = Z9)) (x0 : Nat) (x1 : Nat) (x2 : Nat) (x3 : Nat) (x4 : Int32) (x5 : Nat) (s0 : Nat) (s1 : Int32) (d6 d7 : Option Value) (Z : mjQ) (v9 : Unit) (Z9 : mjQ) (h : g197_init_j611 sg R x0 x1 x2 x3 x4 x5 s0 s1 Z = some (v9, Z9)) : pE sg 59 197 611 [some (.ref x0), some (.ref x1), some (.ref x2), some (.ref x3), some (.int x4), some (.ref x5), d6, d7] [.int s1, .ref s0] Z (fun r M1 => r = none ∧ M1 = Z9) := by
  unfold g197_init_j611 at h
  cases hq477 : qSi Z s0 12 0 s1 with
  | none => rw [hq477] at h; cases h
  | some Z476 =>
    rw [hq477, mjBp_some] at h
    refine pE_pI rfl rfl (by decide) (by decide) hq477 ?_
    refine pE_many 3 (pc1 := 618) (L1 := [some (.ref x0), some (.ref x1), some (.ref x2), some (.ref x3), some (.int x4), some (.ref x5), d6, d7]) (st1 := [.ref x0, .ref x0, .ref x5]) rfl ?_
    have hk478 : mjRo Z476.2 x0 16 = true := by
      by_cases q9 : mjRo Z476.2 x0 16 = true
      · exact q9
      · rw [if_neg q9] at h; cases h
    rw [if_pos hk478] at h
    cases hq479 : g196_teams x0 Z476 with
    | none => rw [hq479] at h; cases h
    | some v480 =>
      rw [hq479, mjBp_some] at h
      refine pE_callV (k2 := 196) (As := []) (rest := [.ref x0, .ref x5]) rfl rfl rfl rfl rfl rfl hk478 (by decide) (by decide) (by decide) (g196_teams_ok hq479) ?_
      show pE sg 59 197 621 [some (.ref x0), some (.ref x1), some (.ref x2), some (.ref x3), some (.int x4), some (.ref x5), d6, d7] [.int v480, .ref x0, .ref x5] Z476 _
      cases hq482 : g195_next sg x0 v480 Z476 with
      | none => rw [hq482] at h; cases h
      | some w =>
        obtain ⟨v483, Z484⟩ := w
        rw [hq482, mjBq_some] at h
        refine pE_callV (k2 := 195) (As := [.int v480]) (rest := [.ref x5]) rfl rfl rfl rfl rfl rfl hk478 (by decide) (by decide) (by decide) (g195_next_ok hq482) ?_
        show pE sg 59 197 624 [some (.ref x0), some (.ref x1), some (.ref x2), some (.ref x3), some (.int x4), some (.ref x5), d6, d7] [.int v483, .ref x5] Z484 _
        cases hq486 : qSi Z484 x5 12 1 v483 with
        | none => rw [hq486] at h; cases h
        | some Z485 =>
          rw [hq486, mjBp_some] at h
          refine pE_pI rfl rfl (by decide) (by decide) hq486 ?_
          refine pE_many 2 (pc1 := 631) (L1 := [some (.ref x0), some (.ref x1), some (.ref x2), some (.ref x3), some (.int x4), some (.ref x5), d6, d7]) (st1 := [.ref x5, .ref x5]) rfl ?_
          cases hq488 : qI Z485.2 x5 12 0 with
          | none => rw [hq488] at h; cases h
          | some v487 =>
            rw [hq488, mjBp_some] at h
            refine pE_gI rfl rfl hq488 ?_
            refine pE_many 1 (pc1 := 635) (L1 := [some (.ref x0), some (.ref x1), some (.ref x2), some (.ref x3), some (.int x4), some (.ref x5), d6, d7]) (st1 := [.int 3, .int v487, .ref x5]) rfl ?_
            by_cases hc489 : mjCmp .ne v487 3 = true
            · rw [if_pos hc489] at h
              refine pE_cmt (t := 664) rfl rfl hc489 ?_
              refine pE_many 1 (pc1 := 665) (L1 := [some (.ref x0), some (.ref x1), some (.ref x2), some (.ref x3), some (.int x4), some (.ref x5), d6, d7]) (st1 := [.int ((-1)), .ref x5]) rfl ?_
              exact g197_init_j665_ok R hR x0 x1 x2 x3 x4 x5 x5 ((-1)) d6 d7 Z485 v9 Z9 h
            · rw [if_neg hc489] at h
              refine pE_cmf (t := 664) rfl rfl hc489 ?_
              refine pE_many 1 (pc1 := 640) (L1 := [some (.ref x0), some (.ref x1), some (.ref x2), some (.ref x3), some (.int x4), some (.ref x5), d6, d7]) (st1 := [.ref x5, .ref x5]) rfl ?_
              cases hq574 : qI Z485.2 x5 12 1 with
              | none => rw [hq574] at h; cases h
              | some v573 =>
                rw [hq574, mjBp_some] at h
                refine pE_gI rfl rfl hq574 ?_
                refine pE_many 4 (pc1 := 647) (L1 := [some (.ref x0), some (.ref x1), some (.ref x2), some (.ref x3), some (.int x4), some (.ref x5), d6, d7]) (st1 := [.ref x0, .ref x0, .int (v573 + 1), .ref x5]) rfl ?_
                have hk575 : mjRo Z485.2 x0 16 = true := by
                  by_cases q9 : mjRo Z485.2 x0 16 = true
                  · exact q9
                  · rw [if_neg q9] at h; cases h
                rw [if_pos hk575] at h
                cases hq576 : g196_teams x0 Z485 with
                | none => rw [hq576] at h; cases h
                | some v577 =>
                  rw [hq576, mjBp_some] at h
                  refine pE_callV (k2 := 196) (As := []) (rest := [.ref x0, .int (v573 + 1), .ref x5]) rfl rfl rfl rfl rfl rfl hk575 (by decide) (by decide) (by decide) (g196_teams_ok hq576) ?_
                  show pE sg 59 197 650 [some (.ref x0), some (.ref x1), some (.ref x2), some (.ref x3), some (.int x4), some (.ref x5), d6, d7] [.int v577, .ref x0, .int (v573 + 1), .ref x5] Z485 _
                  refine pE_many 2 (pc1 := 652) (L1 := [some (.ref x0), some (.ref x1), some (.ref x2), some (.ref x3), some (.int x4), some (.ref x5), d6, d7]) (st1 := [.int (v577 - 1), .ref x0, .int (v573 + 1), .ref x5]) rfl ?_
                  cases hq579 : g195_next sg x0 (v577 - 1) Z485 with
                  | none => rw [hq579] at h; cases h
                  | some w =>
                    obtain ⟨v580, Z581⟩ := w
                    rw [hq579, mjBq_some] at h
                    refine pE_callV (k2 := 195) (As := [.int (v577 - 1)]) (rest := [.int (v573 + 1), .ref x5]) rfl rfl rfl rfl rfl rfl hk575 (by decide) (by decide) (by decide) (g195_next_ok hq579) ?_
                    show pE sg 59 197 655 [some (.ref x0), some (.ref x1), some (.ref x2), some (.ref x3), some (.int x4), some (.ref x5), d6, d7] [.int v580, .int (v573 + 1), .ref x5] Z581 _
                    refine pE_many 2 (pc1 := 657) (L1 := [some (.ref x0), some (.ref x1), some (.ref x2), some (.ref x3), some (.int x4), some (.ref x5), d6, d7]) (st1 := [.ref x0, .int ((v573 + 1) + v580), .ref x5]) rfl ?_
                    have hk582 : mjRo Z581.2 x0 16 = true := by
                      by_cases q9 : mjRo Z581.2 x0 16 = true
                      · exact q9
                      · rw [if_neg q9] at h; cases h
                    rw [if_pos hk582] at h
                    cases hq583 : g196_teams x0 Z581 with
                    | none => rw [hq583] at h; cases h
                    | some v584 =>
                      rw [hq583, mjBp_some] at h
                      refine pE_callV (k2 := 196) (As := []) (rest := [.int ((v573 + 1) + v580), .ref x5]) rfl rfl rfl rfl rfl rfl hk582 (by decide) (by decide) (by decide) (g196_teams_ok hq583) ?_
                      show pE sg 59 197 660 [some (.ref x0), some (.ref x1), some (.ref x2), some (.ref x3), some (.int x4), some (.ref x5), d6, d7] [.int v584, .int ((v573 + 1) + v580), .ref x5] Z581 _
                      have hk586 : ¬ v584 = 0 := by
                        by_cases q9 : ¬ v584 = 0
                        · exact q9
                        · rw [if_neg q9] at h; cases h
                      rw [if_pos hk586] at h
                      refine pE_rem rfl hk586 ?_
                      refine pE_many 1 (pc1 := 665) (L1 := [some (.ref x0), some (.ref x1), some (.ref x2), some (.ref x3), some (.int x4), some (.ref x5), d6, d7]) (st1 := [.int (((v573 + 1) + v580) - ((v573 + 1) + v580) / v584 * v584), .ref x5]) rfl ?_
                      exact g197_init_j665_ok R hR x0 x1 x2 x3 x4 x5 x5 (((v573 + 1) + v580) - ((v573 + 1) + v580) / v584 * v584) d6 d7 Z581 v9 Z9 h
def g197_init_h574 (sg : Nat → Nat) : Nat → Nat → Nat → Nat → Nat → Int32 → mjQ → Option (Unit × mjQ)
  | 0, _, _, _, _, _, _ => none
  | n + 1, x0, x1, x2, x3, x4, Z =>
    if mjCmp .le x4 0 = true then
      if mjRo Z.2 x0 16 = true then
      mjBq (g195_next sg x0 3 Z) fun v278 Z279 =>
      g197_init_h820 sg mjF x0 x1 x2 x3 v278 Z279
      else none
    else
      mjBq (qNew sg Z (12, 0)) fun v462 Z464 =>
      mjBq (g182_init sg v462 Z464) fun _ Z467 =>
      if mjRo Z467.2 x0 16 = true then
      mjBp (g196_teams x0 Z467) fun v470 =>
      if mjCmp .le v470 1 = true then
        mjBq (g195_next sg x0 3 Z467) fun v474 Z475 =>
        g197_init_j611 sg (g197_init_h574 sg n) x0 x1 x2 x3 x4 v462 v462 v474 Z475
      else
        mjBq (g195_next sg x0 4 Z467) fun v588 Z589 =>
        g197_init_j611 sg (g197_init_h574 sg n) x0 x1 x2 x3 x4 v462 v462 v588 Z589
      else none
set_option maxRecDepth 100000 in
theorem g197_init_h574_ok {sg : Nat → Nat} : ∀ (n : Nat) (x0 : Nat) (x1 : Nat) (x2 : Nat) (x3 : Nat) (x4 : Int32) (d5 d6 d7 : Option Value) (Z : mjQ) (v9 : Unit) (Z9 : mjQ), g197_init_h574 sg n x0 x1 x2 x3 x4 Z = some (v9, Z9) → pE sg 59 197 574 [some (.ref x0), some (.ref x1), some (.ref x2), some (.ref x3), some (.int x4), d5, d6, d7] [] Z (fun r M1 => r = none ∧ M1 = Z9)
  | 0, x0, x1, x2, x3, x4, d5, d6, d7, Z, v9, Z9, h => by rw [g197_init_h574] at h; cases h
  | n + 1, x0, x1, x2, x3, x4, d5, d6, d7, Z, v9, Z9, h => by
      rw [g197_init_h574] at h
      refine pE_many 1 (pc1 := 576) (L1 := [some (.ref x0), some (.ref x1), some (.ref x2), some (.ref x3), some (.int x4), d5, d6, d7]) (st1 := [.int x4]) rfl ?_
      by_cases hc275 : mjCmp .le x4 0 = true
      · rw [if_pos hc275] at h
        refine pE_ift (t := 813) rfl rfl hc275 ?_
        refine pE_many 2 (pc1 := 815) (L1 := [some (.ref x0), some (.ref x1), some (.ref x2), some (.ref x3), some (.int x4), d5, d6, d7]) (st1 := [.int 3, .ref x0]) rfl ?_
        have hk276 : mjRo Z.2 x0 16 = true := by
          by_cases q9 : mjRo Z.2 x0 16 = true
          · exact q9
          · rw [if_neg q9] at h; cases h
        rw [if_pos hk276] at h
        cases hq277 : g195_next sg x0 3 Z with
        | none => rw [hq277] at h; cases h
        | some w =>
          obtain ⟨v278, Z279⟩ := w
          rw [hq277, mjBq_some] at h
          refine pE_callV (k2 := 195) (As := [.int 3]) (rest := []) rfl rfl rfl rfl rfl rfl hk276 (by decide) (by decide) (by decide) (g195_next_ok hq277) ?_
          show pE sg 59 197 818 [some (.ref x0), some (.ref x1), some (.ref x2), some (.ref x3), some (.int x4), d5, d6, d7] [.int v278] Z279 _
          refine pE_many 1 (pc1 := 820) (L1 := [some (.ref x0), some (.ref x1), some (.ref x2), some (.ref x3), some (.int v278), d5, d6, d7]) (st1 := []) rfl ?_
          exact g197_init_h820_ok mjF x0 x1 x2 x3 v278 d5 d6 d7 Z279 v9 Z9 h
      · rw [if_neg hc275] at h
        refine pE_iff (t := 813) rfl rfl hc275 ?_
        cases hq463 : qNew sg Z (12, 0) with
        | none => rw [hq463] at h; cases h
        | some w =>
          obtain ⟨v462, Z464⟩ := w
          rw [hq463, mjBq_some] at h
          refine pE_newO rfl rfl (by decide) hq463 ?_
          refine pE_many 1 (pc1 := 583) (L1 := [some (.ref x0), some (.ref x1), some (.ref x2), some (.ref x3), some (.int x4), d5, d6, d7]) (st1 := [.ref v462, .ref v462]) rfl ?_
          cases hq465 : g182_init sg v462 Z464 with
          | none => rw [hq465] at h; cases h
          | some w =>
            obtain ⟨v466, Z467⟩ := w
            rw [hq465, mjBq_some] at h
            refine pE_call (k2 := 182) (As := [.ref v462]) (rest := [.ref v462]) (w := 3) rfl (by decide) (by decide) (g182_init_ok hq465) ?_
            show pE sg 59 197 586 [some (.ref x0), some (.ref x1), some (.ref x2), some (.ref x3), some (.int x4), d5, d6, d7] [.ref v462] Z467 _
            refine pE_many 3 (pc1 := 591) (L1 := [some (.ref x0), some (.ref x1), some (.ref x2), some (.ref x3), some (.int x4), some (.ref v462), d6, d7]) (st1 := [.ref x0, .ref v462]) rfl ?_
            have hk468 : mjRo Z467.2 x0 16 = true := by
              by_cases q9 : mjRo Z467.2 x0 16 = true
              · exact q9
              · rw [if_neg q9] at h; cases h
            rw [if_pos hk468] at h
            cases hq469 : g196_teams x0 Z467 with
            | none => rw [hq469] at h; cases h
            | some v470 =>
              rw [hq469, mjBp_some] at h
              refine pE_callV (k2 := 196) (As := []) (rest := [.ref v462]) rfl rfl rfl rfl rfl rfl hk468 (by decide) (by decide) (by decide) (g196_teams_ok hq469) ?_
              show pE sg 59 197 594 [some (.ref x0), some (.ref x1), some (.ref x2), some (.ref x3), some (.int x4), some (.ref v462), d6, d7] [.int v470, .ref v462] Z467 _
              refine pE_many 1 (pc1 := 595) (L1 := [some (.ref x0), some (.ref x1), some (.ref x2), some (.ref x3), some (.int x4), some (.ref v462), d6, d7]) (st1 := [.int 1, .int v470, .ref v462]) rfl ?_
              by_cases hc472 : mjCmp .le v470 1 = true
              · rw [if_pos hc472] at h
                refine pE_cmt (t := 606) rfl rfl hc472 ?_
                refine pE_many 2 (pc1 := 608) (L1 := [some (.ref x0), some (.ref x1), some (.ref x2), some (.ref x3), some (.int x4), some (.ref v462), d6, d7]) (st1 := [.int 3, .ref x0, .ref v462]) rfl ?_
                cases hq473 : g195_next sg x0 3 Z467 with
                | none => rw [hq473] at h; cases h
                | some w =>
                  obtain ⟨v474, Z475⟩ := w
                  rw [hq473, mjBq_some] at h
                  refine pE_callV (k2 := 195) (As := [.int 3]) (rest := [.ref v462]) rfl rfl rfl rfl rfl rfl hk468 (by decide) (by decide) (by decide) (g195_next_ok hq473) ?_
                  show pE sg 59 197 611 [some (.ref x0), some (.ref x1), some (.ref x2), some (.ref x3), some (.int x4), some (.ref v462), d6, d7] [.int v474, .ref v462] Z475 _
                  exact g197_init_j611_ok (g197_init_h574 sg n) (fun x0 x1 x2 x3 x4 d5 d6 d7 Z v9 Z9 h => g197_init_h574_ok n x0 x1 x2 x3 x4 d5 d6 d7 Z v9 Z9 h) x0 x1 x2 x3 x4 v462 v462 v474 d6 d7 Z475 v9 Z9 h
              · rw [if_neg hc472] at h
                refine pE_cmf (t := 606) rfl rfl hc472 ?_
                refine pE_many 2 (pc1 := 600) (L1 := [some (.ref x0), some (.ref x1), some (.ref x2), some (.ref x3), some (.int x4), some (.ref v462), d6, d7]) (st1 := [.int 4, .ref x0, .ref v462]) rfl ?_
                cases hq587 : g195_next sg x0 4 Z467 with
                | none => rw [hq587] at h; cases h
                | some w =>
                  obtain ⟨v588, Z589⟩ := w
                  rw [hq587, mjBq_some] at h
                  refine pE_callV (k2 := 195) (As := [.int 4]) (rest := [.ref v462]) rfl rfl rfl rfl rfl rfl hk468 (by decide) (by decide) (by decide) (g195_next_ok hq587) ?_
                  show pE sg 59 197 603 [some (.ref x0), some (.ref x1), some (.ref x2), some (.ref x3), some (.int x4), some (.ref v462), d6, d7] [.int v588, .ref v462] Z589 _
                  refine pE_many 1 (pc1 := 611) (L1 := [some (.ref x0), some (.ref x1), some (.ref x2), some (.ref x3), some (.int x4), some (.ref v462), d6, d7]) (st1 := [.int v588, .ref v462]) rfl ?_
                  exact g197_init_j611_ok (g197_init_h574 sg n) (fun x0 x1 x2 x3 x4 d5 d6 d7 Z v9 Z9 h => g197_init_h574_ok n x0 x1 x2 x3 x4 d5 d6 d7 Z v9 Z9 h) x0 x1 x2 x3 x4 v462 v462 v588 d6 d7 Z589 v9 Z9 h
def g197_init_h399 (sg : Nat → Nat) (K : Nat → Nat → Nat → Int32 → mjQ → Option (Unit × mjQ)) : Nat → Nat → Nat → Nat → Int32 → Int32 → Int32 → mjQ → Option (Unit × mjQ)
  | 0, _, _, _, _, _, _, _ => none
  | n + 1, x0, x1, x2, x3, x4, x5, Z =>
    if mjCmp .ge x5 x4 = true then
      K x0 x1 x2 x3 Z
    else
      mjBq (qNewA sg Z 113 2) fun v597 Z599 =>
      if mjRo Z599.2 x0 16 = true then
      mjBq (g195_next sg x0 60 Z599) fun v602 Z603 =>
      mjBp (qSia Z603 v597 0 (60 + v602)) fun Z604 =>
      mjBp (qI Z604.2 x0 16 0) fun v606 =>
      if mjCmp .ne x5 (v606 - 1) = true then
        if mjRo Z604.2 x0 16 = true then
        mjBq (g195_next sg x0 41 Z604) fun v611 Z612 =>
        mjBp (qSia Z612 v597 1 (v611 - 20)) fun Z613 =>
        if mjRo Z613.2 x2 19 = true then
        mjBq (g233_append sg x2 1000045 Z613) fun v617 Z618 =>
        if mjRo Z618.2 v617 19 = true then
        mjBq (g229_append sg v617 (((97 + x3).toUInt32 % 65536).toInt32) Z618) fun v621 Z622 =>
        if mjRo Z622.2 v621 19 = true then
        mjBq (g233_append sg v621 1000042 Z622) fun v625 Z626 =>
        mjBp (qIa Z626.2 v597 0) fun v627 =>
        if mjRo Z626.2 v625 19 = true then
        mjBq (g230_append sg v625 v627 Z626) fun v631 Z632 =>
        if mjRo Z632.2 v631 19 = true then
        mjBq (g233_append sg v631 1000042 Z632) fun v635 Z636 =>
        mjBp (qIa Z636.2 v597 1) fun v637 =>
        if mjRo Z636.2 v635 19 = true then
        mjBq (g230_append sg v635 v637 Z636) fun v641 Z642 =>
        if mjRo Z642.2 v641 19 = true then
        mjBq (g233_append sg v641 1000043 Z642) fun v645 Z646 =>
        mjBp (qR Z646.2 x0 16 9) fun v647 =>
        if mjRo Z646.2 v647 20 = true then
        mjBp (g244_get v647 x3 Z646) fun v651 =>
        if mjKs Z646.2 v651 20 = true then
        if mjRo Z646.2 v651 20 = true then
        mjBq (g240_add sg v651 v597 Z646) fun v656 Z657 =>
        mjBp (qI Z657.2 x0 16 7) fun v658 =>
        mjBp (qSi Z657 x0 16 7 (v658 + 1)) fun Z660 =>
        g197_init_h399 sg K n x0 x1 x2 x3 x4 (x5 + 1) Z660
        else none
        else none
        else none
        else none
        else none
        else none
        else none
        else none
        else none
        else none
        else none
      else
        mjBp (qSia Z604 v597 1 0) fun Z662 =>
        if mjRo Z662.2 x2 19 = true then
        mjBq (g233_append sg x2 1000045 Z662) fun v666 Z667 =>
        if mjRo Z667.2 v666 19 = true then
        mjBq (g229_append sg v666 (((97 + x3).toUInt32 % 65536).toInt32) Z667) fun v670 Z671 =>
        if mjRo Z671.2 v670 19 = true then
        mjBq (g233_append sg v670 1000042 Z671) fun v674 Z675 =>
        mjBp (qIa Z675.2 v597 0) fun v676 =>
        if mjRo Z675.2 v674 19 = true then
        mjBq (g230_append sg v674 v676 Z675) fun v680 Z681 =>
        if mjRo Z681.2 v680 19 = true then
        mjBq (g233_append sg v680 1000042 Z681) fun v684 Z685 =>
        mjBp (qIa Z685.2 v597 1) fun v686 =>
        if mjRo Z685.2 v684 19 = true then
        mjBq (g230_append sg v684 v686 Z685) fun v690 Z691 =>
        if mjRo Z691.2 v690 19 = true then
        mjBq (g233_append sg v690 1000043 Z691) fun v694 Z695 =>
        mjBp (qR Z695.2 x0 16 9) fun v696 =>
        if mjRo Z695.2 v696 20 = true then
        mjBp (g244_get v696 x3 Z695) fun v700 =>
        if mjKs Z695.2 v700 20 = true then
        if mjRo Z695.2 v700 20 = true then
        mjBq (g240_add sg v700 v597 Z695) fun v705 Z706 =>
        mjBp (qI Z706.2 x0 16 7) fun v707 =>
        mjBp (qSi Z706 x0 16 7 (v707 + 1)) fun Z709 =>
        g197_init_h399 sg K n x0 x1 x2 x3 x4 (x5 + 1) Z709
        else none
        else none
        else none
        else none
        else none
        else none
        else none
        else none
        else none
        else none
      else none
set_option maxRecDepth 100000 in
theorem g197_init_h399_ok {sg : Nat → Nat} (K : Nat → Nat → Nat → Int32 → mjQ → Option (Unit × mjQ)) (hK : ∀ (x0 : Nat) (x1 : Nat) (x2 : Nat) (x3 : Int32) (d4 d5 d6 d7 : Option Value) (Z : mjQ) (v9 : Unit) (Z9 : mjQ), K x0 x1 x2 x3 Z = some (v9, Z9) → pE sg 59 197 531 [some (.ref x0), some (.ref x1), some (.ref x2), some (.int x3), d4, d5, d6, d7] [] Z (fun r M1 => r = none ∧ M1 = Z9)) : ∀ (n : Nat) (x0 : Nat) (x1 : Nat) (x2 : Nat) (x3 : Int32) (x4 : Int32) (x5 : Int32) (d6 d7 : Option Value) (Z : mjQ) (v9 : Unit) (Z9 : mjQ), g197_init_h399 sg K n x0 x1 x2 x3 x4 x5 Z = some (v9, Z9) → pE sg 59 197 399 [some (.ref x0), some (.ref x1), some (.ref x2), some (.int x3), some (.int x4), some (.int x5), d6, d7] [] Z (fun r M1 => r = none ∧ M1 = Z9)
  | 0, x0, x1, x2, x3, x4, x5, d6, d7, Z, v9, Z9, h => by rw [g197_init_h399] at h; cases h
  | n + 1, x0, x1, x2, x3, x4, x5, d6, d7, Z, v9, Z9, h => by
      rw [g197_init_h399] at h
      refine pE_many 2 (pc1 := 403) (L1 := [some (.ref x0), some (.ref x1), some (.ref x2), some (.int x3), some (.int x4), some (.int x5), d6, d7]) (st1 := [.int x4, .int x5]) rfl ?_
      by_cases hc596 : mjCmp .ge x5 x4 = true
      · rw [if_pos hc596] at h
        refine pE_cmt (t := 531) rfl rfl hc596 ?_
        exact hK x0 x1 x2 x3 (some (.int x4)) (some (.int x5)) d6 d7 Z v9 Z9 h
      · rw [if_neg hc596] at h
        refine pE_cmf (t := 531) rfl rfl hc596 ?_
        refine pE_many 1 (pc1 := 407) (L1 := [some (.ref x0), some (.ref x1), some (.ref x2), some (.int x3), some (.int x4), some (.int x5), d6, d7]) (st1 := [.int 2]) rfl ?_
        cases hq598 : qNewA sg Z 113 2 with
        | none => rw [hq598] at h; cases h
        | some w =>
          obtain ⟨v597, Z599⟩ := w
          rw [hq598, mjBq_some] at h
          refine pE_newA rfl rfl rfl rfl rfl (by decide) hq598 ?_
          refine pE_many 5 (pc1 := 416) (L1 := [some (.ref x0), some (.ref x1), some (.ref x2), some (.int x3), some (.int x4), some (.int x5), d6, d7]) (st1 := [.int 60, .ref x0, .int 60, .int 0, .ref v597, .ref v597]) rfl ?_
          have hk600 : mjRo Z599.2 x0 16 = true := by
            by_cases q9 : mjRo Z599.2 x0 16 = true
            · exact q9
            · rw [if_neg q9] at h; cases h
          rw [if_pos hk600] at h
          cases hq601 : g195_next sg x0 60 Z599 with
          | none => rw [hq601] at h; cases h
          | some w =>
            obtain ⟨v602, Z603⟩ := w
            rw [hq601, mjBq_some] at h
            refine pE_callV (k2 := 195) (As := [.int 60]) (rest := [.int 60, .int 0, .ref v597, .ref v597]) rfl rfl rfl rfl rfl rfl hk600 (by decide) (by decide) (by decide) (g195_next_ok hq601) ?_
            show pE sg 59 197 419 [some (.ref x0), some (.ref x1), some (.ref x2), some (.int x3), some (.int x4), some (.int x5), d6, d7] [.int v602, .int 60, .int 0, .ref v597, .ref v597] Z603 _
            refine pE_many 1 (pc1 := 420) (L1 := [some (.ref x0), some (.ref x1), some (.ref x2), some (.int x3), some (.int x4), some (.int x5), d6, d7]) (st1 := [.int (60 + v602), .int 0, .ref v597, .ref v597]) rfl ?_
            cases hq605 : qSia Z603 v597 0 (60 + v602) with
            | none => rw [hq605] at h; cases h
            | some Z604 =>
              rw [hq605, mjBp_some] at h
              refine pE_ias rfl (by decide) hq605 ?_
              refine pE_many 4 (pc1 := 426) (L1 := [some (.ref x0), some (.ref x1), some (.ref x2), some (.int x3), some (.int x4), some (.int x5), d6, d7]) (st1 := [.ref x0, .int x5, .int 1, .ref v597, .ref v597]) rfl ?_
              cases hq607 : qI Z604.2 x0 16 0 with
              | none => rw [hq607] at h; cases h
              | some v606 =>
                rw [hq607, mjBp_some] at h
                refine pE_gI rfl rfl hq607 ?_
                refine pE_many 2 (pc1 := 431) (L1 := [some (.ref x0), some (.ref x1), some (.ref x2), some (.int x3), some (.int x4), some (.int x5), d6, d7]) (st1 := [.int (v606 - 1), .int x5, .int 1, .ref v597, .ref v597]) rfl ?_
                by_cases hc608 : mjCmp .ne x5 (v606 - 1) = true
                · rw [if_pos hc608] at h
                  refine pE_cmt (t := 438) rfl rfl hc608 ?_
                  refine pE_many 2 (pc1 := 441) (L1 := [some (.ref x0), some (.ref x1), some (.ref x2), some (.int x3), some (.int x4), some (.int x5), d6, d7]) (st1 := [.int 41, .ref x0, .int 1, .ref v597, .ref v597]) rfl ?_
                  have hk609 : mjRo Z604.2 x0 16 = true := by
                    by_cases q9 : mjRo Z604.2 x0 16 = true
                    · exact q9
                    · rw [if_neg q9] at h; cases h
                  rw [if_pos hk609] at h
                  cases hq610 : g195_next sg x0 41 Z604 with
                  | none => rw [hq610] at h; cases h
                  | some w =>
                    obtain ⟨v611, Z612⟩ := w
                    rw [hq610, mjBq_some] at h
                    refine pE_callV (k2 := 195) (As := [.int 41]) (rest := [.int 1, .ref v597, .ref v597]) rfl rfl rfl rfl rfl rfl hk609 (by decide) (by decide) (by decide) (g195_next_ok hq610) ?_
                    show pE sg 59 197 444 [some (.ref x0), some (.ref x1), some (.ref x2), some (.int x3), some (.int x4), some (.int x5), d6, d7] [.int v611, .int 1, .ref v597, .ref v597] Z612 _
                    refine pE_many 2 (pc1 := 447) (L1 := [some (.ref x0), some (.ref x1), some (.ref x2), some (.int x3), some (.int x4), some (.int x5), d6, d7]) (st1 := [.int (v611 - 20), .int 1, .ref v597, .ref v597]) rfl ?_
                    cases hq614 : qSia Z612 v597 1 (v611 - 20) with
                    | none => rw [hq614] at h; cases h
                    | some Z613 =>
                      rw [hq614, mjBp_some] at h
                      refine pE_ias rfl (by decide) hq614 ?_
                      refine pE_many 3 (pc1 := 453) (L1 := [some (.ref x0), some (.ref x1), some (.ref x2), some (.int x3), some (.int x4), some (.int x5), some (.ref v597), d7]) (st1 := [.ref 1000045, .ref x2]) rfl ?_
                      have hk615 : mjRo Z613.2 x2 19 = true := by
                        by_cases q9 : mjRo Z613.2 x2 19 = true
                        · exact q9
                        · rw [if_neg q9] at h; cases h
                      rw [if_pos hk615] at h
                      cases hq616 : g233_append sg x2 1000045 Z613 with
                      | none => rw [hq616] at h; cases h
                      | some w =>
                        obtain ⟨v617, Z618⟩ := w
                        rw [hq616, mjBq_some] at h
                        refine pE_callV (k2 := 233) (As := [.ref 1000045]) (rest := []) rfl rfl rfl rfl rfl rfl hk615 (by decide) (by decide) (by decide) (g233_append_ok hq616) ?_
                        show pE sg 59 197 456 [some (.ref x0), some (.ref x1), some (.ref x2), some (.int x3), some (.int x4), some (.int x5), some (.ref v597), d7] [.ref v617] Z618 _
                        refine pE_many 4 (pc1 := 461) (L1 := [some (.ref x0), some (.ref x1), some (.ref x2), some (.int x3), some (.int x4), some (.int x5), some (.ref v597), d7]) (st1 := [.int (((97 + x3).toUInt32 % 65536).toInt32), .ref v617]) rfl ?_
                        have hk619 : mjRo Z618.2 v617 19 = true := by
                          by_cases q9 : mjRo Z618.2 v617 19 = true
                          · exact q9
                          · rw [if_neg q9] at h; cases h
                        rw [if_pos hk619] at h
                        cases hq620 : g229_append sg v617 (((97 + x3).toUInt32 % 65536).toInt32) Z618 with
                        | none => rw [hq620] at h; cases h
                        | some w =>
                          obtain ⟨v621, Z622⟩ := w
                          rw [hq620, mjBq_some] at h
                          refine pE_callV (k2 := 229) (As := [.int (((97 + x3).toUInt32 % 65536).toInt32)]) (rest := []) rfl rfl rfl rfl rfl rfl hk619 (by decide) (by decide) (by decide) (g229_append_ok hq620) ?_
                          show pE sg 59 197 464 [some (.ref x0), some (.ref x1), some (.ref x2), some (.int x3), some (.int x4), some (.int x5), some (.ref v597), d7] [.ref v621] Z622 _
                          refine pE_many 1 (pc1 := 466) (L1 := [some (.ref x0), some (.ref x1), some (.ref x2), some (.int x3), some (.int x4), some (.int x5), some (.ref v597), d7]) (st1 := [.ref 1000042, .ref v621]) rfl ?_
                          have hk623 : mjRo Z622.2 v621 19 = true := by
                            by_cases q9 : mjRo Z622.2 v621 19 = true
                            · exact q9
                            · rw [if_neg q9] at h; cases h
                          rw [if_pos hk623] at h
                          cases hq624 : g233_append sg v621 1000042 Z622 with
                          | none => rw [hq624] at h; cases h
                          | some w =>
                            obtain ⟨v625, Z626⟩ := w
                            rw [hq624, mjBq_some] at h
                            refine pE_callV (k2 := 233) (As := [.ref 1000042]) (rest := []) rfl rfl rfl rfl rfl rfl hk623 (by decide) (by decide) (by decide) (g233_append_ok hq624) ?_
                            show pE sg 59 197 469 [some (.ref x0), some (.ref x1), some (.ref x2), some (.int x3), some (.int x4), some (.int x5), some (.ref v597), d7] [.ref v625] Z626 _
                            refine pE_many 2 (pc1 := 472) (L1 := [some (.ref x0), some (.ref x1), some (.ref x2), some (.int x3), some (.int x4), some (.int x5), some (.ref v597), d7]) (st1 := [.int 0, .ref v597, .ref v625]) rfl ?_
                            cases hq628 : qIa Z626.2 v597 0 with
                            | none => rw [hq628] at h; cases h
                            | some v627 =>
                              rw [hq628, mjBp_some] at h
                              refine pE_ial rfl hq628 ?_
                              have hk629 : mjRo Z626.2 v625 19 = true := by
                                by_cases q9 : mjRo Z626.2 v625 19 = true
                                · exact q9
                                · rw [if_neg q9] at h; cases h
                              rw [if_pos hk629] at h
                              cases hq630 : g230_append sg v625 v627 Z626 with
                              | none => rw [hq630] at h; cases h
                              | some w =>
                                obtain ⟨v631, Z632⟩ := w
                                rw [hq630, mjBq_some] at h
                                refine pE_callV (k2 := 230) (As := [.int v627]) (rest := []) rfl rfl rfl rfl rfl rfl hk629 (by decide) (by decide) (by decide) (g230_append_ok hq630) ?_
                                show pE sg 59 197 476 [some (.ref x0), some (.ref x1), some (.ref x2), some (.int x3), some (.int x4), some (.int x5), some (.ref v597), d7] [.ref v631] Z632 _
                                refine pE_many 1 (pc1 := 478) (L1 := [some (.ref x0), some (.ref x1), some (.ref x2), some (.int x3), some (.int x4), some (.int x5), some (.ref v597), d7]) (st1 := [.ref 1000042, .ref v631]) rfl ?_
                                have hk633 : mjRo Z632.2 v631 19 = true := by
                                  by_cases q9 : mjRo Z632.2 v631 19 = true
                                  · exact q9
                                  · rw [if_neg q9] at h; cases h
                                rw [if_pos hk633] at h
                                cases hq634 : g233_append sg v631 1000042 Z632 with
                                | none => rw [hq634] at h; cases h
                                | some w =>
                                  obtain ⟨v635, Z636⟩ := w
                                  rw [hq634, mjBq_some] at h
                                  refine pE_callV (k2 := 233) (As := [.ref 1000042]) (rest := []) rfl rfl rfl rfl rfl rfl hk633 (by decide) (by decide) (by decide) (g233_append_ok hq634) ?_
                                  show pE sg 59 197 481 [some (.ref x0), some (.ref x1), some (.ref x2), some (.int x3), some (.int x4), some (.int x5), some (.ref v597), d7] [.ref v635] Z636 _
                                  refine pE_many 2 (pc1 := 484) (L1 := [some (.ref x0), some (.ref x1), some (.ref x2), some (.int x3), some (.int x4), some (.int x5), some (.ref v597), d7]) (st1 := [.int 1, .ref v597, .ref v635]) rfl ?_
                                  cases hq638 : qIa Z636.2 v597 1 with
                                  | none => rw [hq638] at h; cases h
                                  | some v637 =>
                                    rw [hq638, mjBp_some] at h
                                    refine pE_ial rfl hq638 ?_
                                    have hk639 : mjRo Z636.2 v635 19 = true := by
                                      by_cases q9 : mjRo Z636.2 v635 19 = true
                                      · exact q9
                                      · rw [if_neg q9] at h; cases h
                                    rw [if_pos hk639] at h
                                    cases hq640 : g230_append sg v635 v637 Z636 with
                                    | none => rw [hq640] at h; cases h
                                    | some w =>
                                      obtain ⟨v641, Z642⟩ := w
                                      rw [hq640, mjBq_some] at h
                                      refine pE_callV (k2 := 230) (As := [.int v637]) (rest := []) rfl rfl rfl rfl rfl rfl hk639 (by decide) (by decide) (by decide) (g230_append_ok hq640) ?_
                                      show pE sg 59 197 488 [some (.ref x0), some (.ref x1), some (.ref x2), some (.int x3), some (.int x4), some (.int x5), some (.ref v597), d7] [.ref v641] Z642 _
                                      refine pE_many 1 (pc1 := 490) (L1 := [some (.ref x0), some (.ref x1), some (.ref x2), some (.int x3), some (.int x4), some (.int x5), some (.ref v597), d7]) (st1 := [.ref 1000043, .ref v641]) rfl ?_
                                      have hk643 : mjRo Z642.2 v641 19 = true := by
                                        by_cases q9 : mjRo Z642.2 v641 19 = true
                                        · exact q9
                                        · rw [if_neg q9] at h; cases h
                                      rw [if_pos hk643] at h
                                      cases hq644 : g233_append sg v641 1000043 Z642 with
                                      | none => rw [hq644] at h; cases h
                                      | some w =>
                                        obtain ⟨v645, Z646⟩ := w
                                        rw [hq644, mjBq_some] at h
                                        refine pE_callV (k2 := 233) (As := [.ref 1000043]) (rest := []) rfl rfl rfl rfl rfl rfl hk643 (by decide) (by decide) (by decide) (g233_append_ok hq644) ?_
                                        show pE sg 59 197 493 [some (.ref x0), some (.ref x1), some (.ref x2), some (.int x3), some (.int x4), some (.int x5), some (.ref v597), d7] [.ref v645] Z646 _
                                        refine pE_many 2 (pc1 := 495) (L1 := [some (.ref x0), some (.ref x1), some (.ref x2), some (.int x3), some (.int x4), some (.int x5), some (.ref v597), d7]) (st1 := [.ref x0]) rfl ?_
                                        cases hq648 : qR Z646.2 x0 16 9 with
                                        | none => rw [hq648] at h; cases h
                                        | some v647 =>
                                          rw [hq648, mjBp_some] at h
                                          refine pE_gR rfl rfl hq648 ?_
                                          refine pE_many 1 (pc1 := 499) (L1 := [some (.ref x0), some (.ref x1), some (.ref x2), some (.int x3), some (.int x4), some (.int x5), some (.ref v597), d7]) (st1 := [.int x3, .ref v647]) rfl ?_
                                          have hk649 : mjRo Z646.2 v647 20 = true := by
                                            by_cases q9 : mjRo Z646.2 v647 20 = true
                                            · exact q9
                                            · rw [if_neg q9] at h; cases h
                                          rw [if_pos hk649] at h
                                          cases hq650 : g244_get v647 x3 Z646 with
                                          | none => rw [hq650] at h; cases h
                                          | some v651 =>
                                            rw [hq650, mjBp_some] at h
                                            refine pE_callI (k2 := 244) (As := [.int x3]) (rest := []) rfl rfl rfl rfl rfl rfl hk649 (by decide) (by decide) (by decide) (g244_get_ok hq650) ?_
                                            show pE sg 59 197 504 [some (.ref x0), some (.ref x1), some (.ref x2), some (.int x3), some (.int x4), some (.int x5), some (.ref v597), d7] [.ref v651] Z646 _
                                            have hk653 : mjKs Z646.2 v651 20 = true := by
                                              by_cases q9 : mjKs Z646.2 v651 20 = true
                                              · exact q9
                                              · rw [if_neg q9] at h; cases h
                                            rw [if_pos hk653] at h
                                            refine pE_cast rfl (Or.inr (Or.inr (Or.inl ⟨rfl, hk653⟩))) ?_
                                            refine pE_many 1 (pc1 := 509) (L1 := [some (.ref x0), some (.ref x1), some (.ref x2), some (.int x3), some (.int x4), some (.int x5), some (.ref v597), d7]) (st1 := [.ref v597, .ref v651]) rfl ?_
                                            have hk654 : mjRo Z646.2 v651 20 = true := by
                                              by_cases q9 : mjRo Z646.2 v651 20 = true
                                              · exact q9
                                              · rw [if_neg q9] at h; cases h
                                            rw [if_pos hk654] at h
                                            cases hq655 : g240_add sg v651 v597 Z646 with
                                            | none => rw [hq655] at h; cases h
                                            | some w =>
                                              obtain ⟨v656, Z657⟩ := w
                                              rw [hq655, mjBq_some] at h
                                              refine pE_callI (k2 := 240) (As := [.ref v597]) (rest := []) rfl rfl rfl rfl rfl rfl hk654 (by decide) (by decide) (by decide) (g240_add_ok hq655) ?_
                                              show pE sg 59 197 514 [some (.ref x0), some (.ref x1), some (.ref x2), some (.int x3), some (.int x4), some (.int x5), some (.ref v597), d7] [.int v656] Z657 _
                                              refine pE_many 3 (pc1 := 517) (L1 := [some (.ref x0), some (.ref x1), some (.ref x2), some (.int x3), some (.int x4), some (.int x5), some (.ref v597), d7]) (st1 := [.ref x0, .ref x0]) rfl ?_
                                              cases hq659 : qI Z657.2 x0 16 7 with
                                              | none => rw [hq659] at h; cases h
                                              | some v658 =>
                                                rw [hq659, mjBp_some] at h
                                                refine pE_gI rfl rfl hq659 ?_
                                                refine pE_many 2 (pc1 := 522) (L1 := [some (.ref x0), some (.ref x1), some (.ref x2), some (.int x3), some (.int x4), some (.int x5), some (.ref v597), d7]) (st1 := [.int (v658 + 1), .ref x0]) rfl ?_
                                                cases hq661 : qSi Z657 x0 16 7 (v658 + 1) with
                                                | none => rw [hq661] at h; cases h
                                                | some Z660 =>
                                                  rw [hq661, mjBp_some] at h
                                                  refine pE_pI rfl rfl (by decide) (by decide) hq661 ?_
                                                  refine pE_many 2 (pc1 := 399) (L1 := [some (.ref x0), some (.ref x1), some (.ref x2), some (.int x3), some (.int x4), some (.int (x5 + 1)), some (.ref v597), d7]) (st1 := []) rfl ?_
                                                  exact g197_init_h399_ok K hK n x0 x1 x2 x3 x4 (x5 + 1) (some (.ref v597)) d7 Z660 v9 Z9 h
                · rw [if_neg hc608] at h
                  refine pE_cmf (t := 438) rfl rfl hc608 ?_
                  refine pE_many 2 (pc1 := 447) (L1 := [some (.ref x0), some (.ref x1), some (.ref x2), some (.int x3), some (.int x4), some (.int x5), d6, d7]) (st1 := [.int 0, .int 1, .ref v597, .ref v597]) rfl ?_
                  cases hq663 : qSia Z604 v597 1 0 with
                  | none => rw [hq663] at h; cases h
                  | some Z662 =>
                    rw [hq663, mjBp_some] at h
                    refine pE_ias rfl (by decide) hq663 ?_
                    refine pE_many 3 (pc1 := 453) (L1 := [some (.ref x0), some (.ref x1), some (.ref x2), some (.int x3), some (.int x4), some (.int x5), some (.ref v597), d7]) (st1 := [.ref 1000045, .ref x2]) rfl ?_
                    have hk664 : mjRo Z662.2 x2 19 = true := by
                      by_cases q9 : mjRo Z662.2 x2 19 = true
                      · exact q9
                      · rw [if_neg q9] at h; cases h
                    rw [if_pos hk664] at h
                    cases hq665 : g233_append sg x2 1000045 Z662 with
                    | none => rw [hq665] at h; cases h
                    | some w =>
                      obtain ⟨v666, Z667⟩ := w
                      rw [hq665, mjBq_some] at h
                      refine pE_callV (k2 := 233) (As := [.ref 1000045]) (rest := []) rfl rfl rfl rfl rfl rfl hk664 (by decide) (by decide) (by decide) (g233_append_ok hq665) ?_
                      show pE sg 59 197 456 [some (.ref x0), some (.ref x1), some (.ref x2), some (.int x3), some (.int x4), some (.int x5), some (.ref v597), d7] [.ref v666] Z667 _
                      refine pE_many 4 (pc1 := 461) (L1 := [some (.ref x0), some (.ref x1), some (.ref x2), some (.int x3), some (.int x4), some (.int x5), some (.ref v597), d7]) (st1 := [.int (((97 + x3).toUInt32 % 65536).toInt32), .ref v666]) rfl ?_
                      have hk668 : mjRo Z667.2 v666 19 = true := by
                        by_cases q9 : mjRo Z667.2 v666 19 = true
                        · exact q9
                        · rw [if_neg q9] at h; cases h
                      rw [if_pos hk668] at h
                      cases hq669 : g229_append sg v666 (((97 + x3).toUInt32 % 65536).toInt32) Z667 with
                      | none => rw [hq669] at h; cases h
                      | some w =>
                        obtain ⟨v670, Z671⟩ := w
                        rw [hq669, mjBq_some] at h
                        refine pE_callV (k2 := 229) (As := [.int (((97 + x3).toUInt32 % 65536).toInt32)]) (rest := []) rfl rfl rfl rfl rfl rfl hk668 (by decide) (by decide) (by decide) (g229_append_ok hq669) ?_
                        show pE sg 59 197 464 [some (.ref x0), some (.ref x1), some (.ref x2), some (.int x3), some (.int x4), some (.int x5), some (.ref v597), d7] [.ref v670] Z671 _
                        refine pE_many 1 (pc1 := 466) (L1 := [some (.ref x0), some (.ref x1), some (.ref x2), some (.int x3), some (.int x4), some (.int x5), some (.ref v597), d7]) (st1 := [.ref 1000042, .ref v670]) rfl ?_
                        have hk672 : mjRo Z671.2 v670 19 = true := by
                          by_cases q9 : mjRo Z671.2 v670 19 = true
                          · exact q9
                          · rw [if_neg q9] at h; cases h
                        rw [if_pos hk672] at h
                        cases hq673 : g233_append sg v670 1000042 Z671 with
                        | none => rw [hq673] at h; cases h
                        | some w =>
                          obtain ⟨v674, Z675⟩ := w
                          rw [hq673, mjBq_some] at h
                          refine pE_callV (k2 := 233) (As := [.ref 1000042]) (rest := []) rfl rfl rfl rfl rfl rfl hk672 (by decide) (by decide) (by decide) (g233_append_ok hq673) ?_
                          show pE sg 59 197 469 [some (.ref x0), some (.ref x1), some (.ref x2), some (.int x3), some (.int x4), some (.int x5), some (.ref v597), d7] [.ref v674] Z675 _
                          refine pE_many 2 (pc1 := 472) (L1 := [some (.ref x0), some (.ref x1), some (.ref x2), some (.int x3), some (.int x4), some (.int x5), some (.ref v597), d7]) (st1 := [.int 0, .ref v597, .ref v674]) rfl ?_
                          cases hq677 : qIa Z675.2 v597 0 with
                          | none => rw [hq677] at h; cases h
                          | some v676 =>
                            rw [hq677, mjBp_some] at h
                            refine pE_ial rfl hq677 ?_
                            have hk678 : mjRo Z675.2 v674 19 = true := by
                              by_cases q9 : mjRo Z675.2 v674 19 = true
                              · exact q9
                              · rw [if_neg q9] at h; cases h
                            rw [if_pos hk678] at h
                            cases hq679 : g230_append sg v674 v676 Z675 with
                            | none => rw [hq679] at h; cases h
                            | some w =>
                              obtain ⟨v680, Z681⟩ := w
                              rw [hq679, mjBq_some] at h
                              refine pE_callV (k2 := 230) (As := [.int v676]) (rest := []) rfl rfl rfl rfl rfl rfl hk678 (by decide) (by decide) (by decide) (g230_append_ok hq679) ?_
                              show pE sg 59 197 476 [some (.ref x0), some (.ref x1), some (.ref x2), some (.int x3), some (.int x4), some (.int x5), some (.ref v597), d7] [.ref v680] Z681 _
                              refine pE_many 1 (pc1 := 478) (L1 := [some (.ref x0), some (.ref x1), some (.ref x2), some (.int x3), some (.int x4), some (.int x5), some (.ref v597), d7]) (st1 := [.ref 1000042, .ref v680]) rfl ?_
                              have hk682 : mjRo Z681.2 v680 19 = true := by
                                by_cases q9 : mjRo Z681.2 v680 19 = true
                                · exact q9
                                · rw [if_neg q9] at h; cases h
                              rw [if_pos hk682] at h
                              cases hq683 : g233_append sg v680 1000042 Z681 with
                              | none => rw [hq683] at h; cases h
                              | some w =>
                                obtain ⟨v684, Z685⟩ := w
                                rw [hq683, mjBq_some] at h
                                refine pE_callV (k2 := 233) (As := [.ref 1000042]) (rest := []) rfl rfl rfl rfl rfl rfl hk682 (by decide) (by decide) (by decide) (g233_append_ok hq683) ?_
                                show pE sg 59 197 481 [some (.ref x0), some (.ref x1), some (.ref x2), some (.int x3), some (.int x4), some (.int x5), some (.ref v597), d7] [.ref v684] Z685 _
                                refine pE_many 2 (pc1 := 484) (L1 := [some (.ref x0), some (.ref x1), some (.ref x2), some (.int x3), some (.int x4), some (.int x5), some (.ref v597), d7]) (st1 := [.int 1, .ref v597, .ref v684]) rfl ?_
                                cases hq687 : qIa Z685.2 v597 1 with
                                | none => rw [hq687] at h; cases h
                                | some v686 =>
                                  rw [hq687, mjBp_some] at h
                                  refine pE_ial rfl hq687 ?_
                                  have hk688 : mjRo Z685.2 v684 19 = true := by
                                    by_cases q9 : mjRo Z685.2 v684 19 = true
                                    · exact q9
                                    · rw [if_neg q9] at h; cases h
                                  rw [if_pos hk688] at h
                                  cases hq689 : g230_append sg v684 v686 Z685 with
                                  | none => rw [hq689] at h; cases h
                                  | some w =>
                                    obtain ⟨v690, Z691⟩ := w
                                    rw [hq689, mjBq_some] at h
                                    refine pE_callV (k2 := 230) (As := [.int v686]) (rest := []) rfl rfl rfl rfl rfl rfl hk688 (by decide) (by decide) (by decide) (g230_append_ok hq689) ?_
                                    show pE sg 59 197 488 [some (.ref x0), some (.ref x1), some (.ref x2), some (.int x3), some (.int x4), some (.int x5), some (.ref v597), d7] [.ref v690] Z691 _
                                    refine pE_many 1 (pc1 := 490) (L1 := [some (.ref x0), some (.ref x1), some (.ref x2), some (.int x3), some (.int x4), some (.int x5), some (.ref v597), d7]) (st1 := [.ref 1000043, .ref v690]) rfl ?_
                                    have hk692 : mjRo Z691.2 v690 19 = true := by
                                      by_cases q9 : mjRo Z691.2 v690 19 = true
                                      · exact q9
                                      · rw [if_neg q9] at h; cases h
                                    rw [if_pos hk692] at h
                                    cases hq693 : g233_append sg v690 1000043 Z691 with
                                    | none => rw [hq693] at h; cases h
                                    | some w =>
                                      obtain ⟨v694, Z695⟩ := w
                                      rw [hq693, mjBq_some] at h
                                      refine pE_callV (k2 := 233) (As := [.ref 1000043]) (rest := []) rfl rfl rfl rfl rfl rfl hk692 (by decide) (by decide) (by decide) (g233_append_ok hq693) ?_
                                      show pE sg 59 197 493 [some (.ref x0), some (.ref x1), some (.ref x2), some (.int x3), some (.int x4), some (.int x5), some (.ref v597), d7] [.ref v694] Z695 _
                                      refine pE_many 2 (pc1 := 495) (L1 := [some (.ref x0), some (.ref x1), some (.ref x2), some (.int x3), some (.int x4), some (.int x5), some (.ref v597), d7]) (st1 := [.ref x0]) rfl ?_
                                      cases hq697 : qR Z695.2 x0 16 9 with
                                      | none => rw [hq697] at h; cases h
                                      | some v696 =>
                                        rw [hq697, mjBp_some] at h
                                        refine pE_gR rfl rfl hq697 ?_
                                        refine pE_many 1 (pc1 := 499) (L1 := [some (.ref x0), some (.ref x1), some (.ref x2), some (.int x3), some (.int x4), some (.int x5), some (.ref v597), d7]) (st1 := [.int x3, .ref v696]) rfl ?_
                                        have hk698 : mjRo Z695.2 v696 20 = true := by
                                          by_cases q9 : mjRo Z695.2 v696 20 = true
                                          · exact q9
                                          · rw [if_neg q9] at h; cases h
                                        rw [if_pos hk698] at h
                                        cases hq699 : g244_get v696 x3 Z695 with
                                        | none => rw [hq699] at h; cases h
                                        | some v700 =>
                                          rw [hq699, mjBp_some] at h
                                          refine pE_callI (k2 := 244) (As := [.int x3]) (rest := []) rfl rfl rfl rfl rfl rfl hk698 (by decide) (by decide) (by decide) (g244_get_ok hq699) ?_
                                          show pE sg 59 197 504 [some (.ref x0), some (.ref x1), some (.ref x2), some (.int x3), some (.int x4), some (.int x5), some (.ref v597), d7] [.ref v700] Z695 _
                                          have hk702 : mjKs Z695.2 v700 20 = true := by
                                            by_cases q9 : mjKs Z695.2 v700 20 = true
                                            · exact q9
                                            · rw [if_neg q9] at h; cases h
                                          rw [if_pos hk702] at h
                                          refine pE_cast rfl (Or.inr (Or.inr (Or.inl ⟨rfl, hk702⟩))) ?_
                                          refine pE_many 1 (pc1 := 509) (L1 := [some (.ref x0), some (.ref x1), some (.ref x2), some (.int x3), some (.int x4), some (.int x5), some (.ref v597), d7]) (st1 := [.ref v597, .ref v700]) rfl ?_
                                          have hk703 : mjRo Z695.2 v700 20 = true := by
                                            by_cases q9 : mjRo Z695.2 v700 20 = true
                                            · exact q9
                                            · rw [if_neg q9] at h; cases h
                                          rw [if_pos hk703] at h
                                          cases hq704 : g240_add sg v700 v597 Z695 with
                                          | none => rw [hq704] at h; cases h
                                          | some w =>
                                            obtain ⟨v705, Z706⟩ := w
                                            rw [hq704, mjBq_some] at h
                                            refine pE_callI (k2 := 240) (As := [.ref v597]) (rest := []) rfl rfl rfl rfl rfl rfl hk703 (by decide) (by decide) (by decide) (g240_add_ok hq704) ?_
                                            show pE sg 59 197 514 [some (.ref x0), some (.ref x1), some (.ref x2), some (.int x3), some (.int x4), some (.int x5), some (.ref v597), d7] [.int v705] Z706 _
                                            refine pE_many 3 (pc1 := 517) (L1 := [some (.ref x0), some (.ref x1), some (.ref x2), some (.int x3), some (.int x4), some (.int x5), some (.ref v597), d7]) (st1 := [.ref x0, .ref x0]) rfl ?_
                                            cases hq708 : qI Z706.2 x0 16 7 with
                                            | none => rw [hq708] at h; cases h
                                            | some v707 =>
                                              rw [hq708, mjBp_some] at h
                                              refine pE_gI rfl rfl hq708 ?_
                                              refine pE_many 2 (pc1 := 522) (L1 := [some (.ref x0), some (.ref x1), some (.ref x2), some (.int x3), some (.int x4), some (.int x5), some (.ref v597), d7]) (st1 := [.int (v707 + 1), .ref x0]) rfl ?_
                                              cases hq710 : qSi Z706 x0 16 7 (v707 + 1) with
                                              | none => rw [hq710] at h; cases h
                                              | some Z709 =>
                                                rw [hq710, mjBp_some] at h
                                                refine pE_pI rfl rfl (by decide) (by decide) hq710 ?_
                                                refine pE_many 2 (pc1 := 399) (L1 := [some (.ref x0), some (.ref x1), some (.ref x2), some (.int x3), some (.int x4), some (.int (x5 + 1)), some (.ref v597), d7]) (st1 := []) rfl ?_
                                                exact g197_init_h399_ok K hK n x0 x1 x2 x3 x4 (x5 + 1) (some (.ref v597)) d7 Z709 v9 Z9 h
def g197_init_j394 (sg : Nat → Nat) (R : Nat → Nat → Nat → Int32 → mjQ → Option (Unit × mjQ)) (x0 : Nat) (x1 : Nat) (x2 : Nat) (x3 : Int32) (s0 : Int32) (Z : mjQ) : Option (Unit × mjQ) :=
  g197_init_h399 sg (fun x0_Z711 x1_Z711 x2_Z711 x3_Z711 Z711 =>
    R x0_Z711 x1_Z711 x2_Z711 (x3_Z711 + 1) Z711
    ) mjF x0 x1 x2 x3 s0 0 Z
set_option maxRecDepth 100000 in
theorem g197_init_j394_ok {sg : Nat → Nat} (R : Nat → Nat → Nat → Int32 → mjQ → Option (Unit × mjQ)) (hR : ∀ (x0 : Nat) (x1 : Nat) (x2 : Nat) (x3 : Int32) (d4 d5 d6 d7 : Option Value) (Z : mjQ) (v9 : Unit) (Z9 : mjQ), R x0 x1 x2 x3 Z = some (v9, Z9) → pE sg 59 197 360 [some (.ref x0), some (.ref x1), some (.ref x2), some (.int x3), d4, d5, d6, d7] [] Z (fun r M1 => r = none ∧ M1 = Z9)) (x0 : Nat) (x1 : Nat) (x2 : Nat) (x3 : Int32) (s0 : Int32) (d4 d5 d6 d7 : Option Value) (Z : mjQ) (v9 : Unit) (Z9 : mjQ) (h : g197_init_j394 sg R x0 x1 x2 x3 s0 Z = some (v9, Z9)) : pE sg 59 197 394 [some (.ref x0), some (.ref x1), some (.ref x2), some (.int x3), d4, d5, d6, d7] [.int s0] Z (fun r M1 => r = none ∧ M1 = Z9) := by
  unfold g197_init_j394 at h
  refine pE_many 3 (pc1 := 399) (L1 := [some (.ref x0), some (.ref x1), some (.ref x2), some (.int x3), some (.int s0), some (.int 0), d6, d7]) (st1 := []) rfl ?_
  refine g197_init_h399_ok _ ?_ mjF x0 x1 x2 x3 s0 0 d6 d7 Z v9 Z9 h
  clear h
  intro x0_Z711 x1_Z711 x2_Z711 x3_Z711 d4 d5 d6 d7 Z711 v9 Z9 h
  refine pE_many 2 (pc1 := 360) (L1 := [some (.ref x0_Z711), some (.ref x1_Z711), some (.ref x2_Z711), some (.int (x3_Z711 + 1)), d4, d5, d6, d7]) (st1 := []) rfl ?_
  exact hR x0_Z711 x1_Z711 x2_Z711 (x3_Z711 + 1) d4 d5 d6 d7 Z711 v9 Z9 h
def g197_init_h360 (sg : Nat → Nat) : Nat → Nat → Nat → Nat → Int32 → mjQ → Option (Unit × mjQ)
  | 0, _, _, _, _, _ => none
  | n + 1, x0, x1, x2, x3, Z =>
    if mjRo Z.2 x0 16 = true then
    mjBp (g196_teams x0 Z) fun v255 =>
    if mjCmp .ge x3 v255 = true then
      mjBq (qNewA sg Z 120 5) fun v258 Z260 =>
      mjBp (qSra Z260 v258 0 1000046) fun Z261 =>
      mjBp (qSra Z261 v258 1 1000047) fun Z263 =>
      mjBp (qSra Z263 v258 2 1000048) fun Z265 =>
      mjBp (qSra Z265 v258 3 1000049) fun Z267 =>
      mjBp (qSra Z267 v258 4 1000050) fun Z269 =>
      if mjRo Z269.2 x0 16 = true then
      mjBq (g195_next sg x0 5 Z269) fun v273 Z274 =>
      g197_init_h574 sg mjF x0 x1 x2 v258 v273 Z274
      else none
    else
      mjBq (g195_next sg x0 6 Z) fun v591 Z592 =>
      if mjCmp .ne v591 0 = true then
        mjBp (qI Z592.2 x0 16 0) fun v594 =>
        g197_init_j394 sg (g197_init_h360 sg n) x0 x1 x2 x3 v594 Z592
      else
        mjBp (qI Z592.2 x0 16 0) fun v712 =>
        if mjRo Z592.2 x0 16 = true then
        mjBq (g195_next sg x0 (v712 + 1) Z592) fun v716 Z717 =>
        g197_init_j394 sg (g197_init_h360 sg n) x0 x1 x2 x3 v716 Z717
        else none
    else none
set_option maxRecDepth 100000 in
theorem g197_init_h360_ok {sg : Nat → Nat} : ∀ (n : Nat) (x0 : Nat) (x1 : Nat) (x2 : Nat) (x3 : Int32) (d4 d5 d6 d7 : Option Value) (Z : mjQ) (v9 : Unit) (Z9 : mjQ), g197_init_h360 sg n x0 x1 x2 x3 Z = some (v9, Z9) → pE sg 59 197 360 [some (.ref x0), some (.ref x1), some (.ref x2), some (.int x3), d4, d5, d6, d7] [] Z (fun r M1 => r = none ∧ M1 = Z9)
  | 0, x0, x1, x2, x3, d4, d5, d6, d7, Z, v9, Z9, h => by rw [g197_init_h360] at h; cases h
  | n + 1, x0, x1, x2, x3, d4, d5, d6, d7, Z, v9, Z9, h => by
      rw [g197_init_h360] at h
      refine pE_many 2 (pc1 := 362) (L1 := [some (.ref x0), some (.ref x1), some (.ref x2), some (.int x3), d4, d5, d6, d7]) (st1 := [.ref x0, .int x3]) rfl ?_
      have hk253 : mjRo Z.2 x0 16 = true := by
        by_cases q9 : mjRo Z.2 x0 16 = true
        · exact q9
        · rw [if_neg q9] at h; cases h
      rw [if_pos hk253] at h
      cases hq254 : g196_teams x0 Z with
      | none => rw [hq254] at h; cases h
      | some v255 =>
        rw [hq254, mjBp_some] at h
        refine pE_callV (k2 := 196) (As := []) (rest := [.int x3]) rfl rfl rfl rfl rfl rfl hk253 (by decide) (by decide) (by decide) (g196_teams_ok hq254) ?_
        show pE sg 59 197 365 [some (.ref x0), some (.ref x1), some (.ref x2), some (.int x3), d4, d5, d6, d7] [.int v255, .int x3] Z _
        by_cases hc257 : mjCmp .ge x3 v255 = true
        · rw [if_pos hc257] at h
          refine pE_cmt (t := 537) rfl rfl hc257 ?_
          refine pE_many 1 (pc1 := 538) (L1 := [some (.ref x0), some (.ref x1), some (.ref x2), some (.int x3), d4, d5, d6, d7]) (st1 := [.int 5]) rfl ?_
          cases hq259 : qNewA sg Z 120 5 with
          | none => rw [hq259] at h; cases h
          | some w =>
            obtain ⟨v258, Z260⟩ := w
            rw [hq259, mjBq_some] at h
            refine pE_newA rfl rfl rfl rfl rfl (by decide) hq259 ?_
            refine pE_many 3 (pc1 := 545) (L1 := [some (.ref x0), some (.ref x1), some (.ref x2), some (.int x3), d4, d5, d6, d7]) (st1 := [.ref 1000046, .int 0, .ref v258, .ref v258]) rfl ?_
            cases hq262 : qSra Z260 v258 0 1000046 with
            | none => rw [hq262] at h; cases h
            | some Z261 =>
              rw [hq262, mjBp_some] at h
              refine pE_aas rfl (by decide) hq262 ?_
              refine pE_many 3 (pc1 := 550) (L1 := [some (.ref x0), some (.ref x1), some (.ref x2), some (.int x3), d4, d5, d6, d7]) (st1 := [.ref 1000047, .int 1, .ref v258, .ref v258]) rfl ?_
              cases hq264 : qSra Z261 v258 1 1000047 with
              | none => rw [hq264] at h; cases h
              | some Z263 =>
                rw [hq264, mjBp_some] at h
                refine pE_aas rfl (by decide) hq264 ?_
                refine pE_many 3 (pc1 := 555) (L1 := [some (.ref x0), some (.ref x1), some (.ref x2), some (.int x3), d4, d5, d6, d7]) (st1 := [.ref 1000048, .int 2, .ref v258, .ref v258]) rfl ?_
                cases hq266 : qSra Z263 v258 2 1000048 with
                | none => rw [hq266] at h; cases h
                | some Z265 =>
                  rw [hq266, mjBp_some] at h
                  refine pE_aas rfl (by decide) hq266 ?_
                  refine pE_many 3 (pc1 := 560) (L1 := [some (.ref x0), some (.ref x1), some (.ref x2), some (.int x3), d4, d5, d6, d7]) (st1 := [.ref 1000049, .int 3, .ref v258, .ref v258]) rfl ?_
                  cases hq268 : qSra Z265 v258 3 1000049 with
                  | none => rw [hq268] at h; cases h
                  | some Z267 =>
                    rw [hq268, mjBp_some] at h
                    refine pE_aas rfl (by decide) hq268 ?_
                    refine pE_many 3 (pc1 := 565) (L1 := [some (.ref x0), some (.ref x1), some (.ref x2), some (.int x3), d4, d5, d6, d7]) (st1 := [.ref 1000050, .int 4, .ref v258, .ref v258]) rfl ?_
                    cases hq270 : qSra Z267 v258 4 1000050 with
                    | none => rw [hq270] at h; cases h
                    | some Z269 =>
                      rw [hq270, mjBp_some] at h
                      refine pE_aas rfl (by decide) hq270 ?_
                      refine pE_many 3 (pc1 := 569) (L1 := [some (.ref x0), some (.ref x1), some (.ref x2), some (.ref v258), d4, d5, d6, d7]) (st1 := [.int 5, .ref x0]) rfl ?_
                      have hk271 : mjRo Z269.2 x0 16 = true := by
                        by_cases q9 : mjRo Z269.2 x0 16 = true
                        · exact q9
                        · rw [if_neg q9] at h; cases h
                      rw [if_pos hk271] at h
                      cases hq272 : g195_next sg x0 5 Z269 with
                      | none => rw [hq272] at h; cases h
                      | some w =>
                        obtain ⟨v273, Z274⟩ := w
                        rw [hq272, mjBq_some] at h
                        refine pE_callV (k2 := 195) (As := [.int 5]) (rest := []) rfl rfl rfl rfl rfl rfl hk271 (by decide) (by decide) (by decide) (g195_next_ok hq272) ?_
                        show pE sg 59 197 572 [some (.ref x0), some (.ref x1), some (.ref x2), some (.ref v258), d4, d5, d6, d7] [.int v273] Z274 _
                        refine pE_many 1 (pc1 := 574) (L1 := [some (.ref x0), some (.ref x1), some (.ref x2), some (.ref v258), some (.int v273), d5, d6, d7]) (st1 := []) rfl ?_
                        exact g197_init_h574_ok mjF x0 x1 x2 v258 v273 d5 d6 d7 Z274 v9 Z9 h
        · rw [if_neg hc257] at h
          refine pE_cmf (t := 537) rfl rfl hc257 ?_
          refine pE_many 2 (pc1 := 371) (L1 := [some (.ref x0), some (.ref x1), some (.ref x2), some (.int x3), d4, d5, d6, d7]) (st1 := [.int 6, .ref x0]) rfl ?_
          cases hq590 : g195_next sg x0 6 Z with
          | none => rw [hq590] at h; cases h
          | some w =>
            obtain ⟨v591, Z592⟩ := w
            rw [hq590, mjBq_some] at h
            refine pE_callV (k2 := 195) (As := [.int 6]) (rest := []) rfl rfl rfl rfl rfl rfl hk253 (by decide) (by decide) (by decide) (g195_next_ok hq590) ?_
            show pE sg 59 197 374 [some (.ref x0), some (.ref x1), some (.ref x2), some (.int x3), d4, d5, d6, d7] [.int v591] Z592 _
            by_cases hc593 : mjCmp .ne v591 0 = true
            · rw [if_pos hc593] at h
              refine pE_ift (t := 390) rfl rfl hc593 ?_
              refine pE_many 1 (pc1 := 391) (L1 := [some (.ref x0), some (.ref x1), some (.ref x2), some (.int x3), d4, d5, d6, d7]) (st1 := [.ref x0]) rfl ?_
              cases hq595 : qI Z592.2 x0 16 0 with
              | none => rw [hq595] at h; cases h
              | some v594 =>
                rw [hq595, mjBp_some] at h
                refine pE_gI rfl rfl hq595 ?_
                exact g197_init_j394_ok (g197_init_h360 sg n) (fun x0 x1 x2 x3 d4 d5 d6 d7 Z v9 Z9 h => g197_init_h360_ok n x0 x1 x2 x3 d4 d5 d6 d7 Z v9 Z9 h) x0 x1 x2 x3 v594 d4 d5 d6 d7 Z592 v9 Z9 h
            · rw [if_neg hc593] at h
              refine pE_iff (t := 390) rfl rfl hc593 ?_
              refine pE_many 2 (pc1 := 379) (L1 := [some (.ref x0), some (.ref x1), some (.ref x2), some (.int x3), d4, d5, d6, d7]) (st1 := [.ref x0, .ref x0]) rfl ?_
              cases hq713 : qI Z592.2 x0 16 0 with
              | none => rw [hq713] at h; cases h
              | some v712 =>
                rw [hq713, mjBp_some] at h
                refine pE_gI rfl rfl hq713 ?_
                refine pE_many 2 (pc1 := 384) (L1 := [some (.ref x0), some (.ref x1), some (.ref x2), some (.int x3), d4, d5, d6, d7]) (st1 := [.int (v712 + 1), .ref x0]) rfl ?_
                have hk714 : mjRo Z592.2 x0 16 = true := by
                  by_cases q9 : mjRo Z592.2 x0 16 = true
                  · exact q9
                  · rw [if_neg q9] at h; cases h
                rw [if_pos hk714] at h
                cases hq715 : g195_next sg x0 (v712 + 1) Z592 with
                | none => rw [hq715] at h; cases h
                | some w =>
                  obtain ⟨v716, Z717⟩ := w
                  rw [hq715, mjBq_some] at h
                  refine pE_callV (k2 := 195) (As := [.int (v712 + 1)]) (rest := []) rfl rfl rfl rfl rfl rfl hk714 (by decide) (by decide) (by decide) (g195_next_ok hq715) ?_
                  show pE sg 59 197 387 [some (.ref x0), some (.ref x1), some (.ref x2), some (.int x3), d4, d5, d6, d7] [.int v716] Z717 _
                  refine pE_many 1 (pc1 := 394) (L1 := [some (.ref x0), some (.ref x1), some (.ref x2), some (.int x3), d4, d5, d6, d7]) (st1 := [.int v716]) rfl ?_
                  exact g197_init_j394_ok (g197_init_h360 sg n) (fun x0 x1 x2 x3 d4 d5 d6 d7 Z v9 Z9 h => g197_init_h360_ok n x0 x1 x2 x3 d4 d5 d6 d7 Z v9 Z9 h) x0 x1 x2 x3 v716 d4 d5 d6 d7 Z717 v9 Z9 h
def g197_init_h243 (sg : Nat → Nat) (K : Nat → Nat → Nat → Int32 → Int32 → mjQ → Option (Unit × mjQ)) : Nat → Nat → Nat → Nat → Int32 → Int32 → mjQ → Option (Unit × mjQ)
  | 0, _, _, _, _, _, _ => none
  | n + 1, x0, x1, x2, x3, x4, Z =>
    mjBp (qR Z.2 x0 16 8) fun v722 =>
    mjBq (g223_valueOf sg x4 Z) fun v725 Z726 =>
    if mjRo Z726.2 v722 20 = true then
    mjBp (g242_contains v722 v725 Z726) fun v729 =>
    if mjCmp .eq v729 0 = true then
      K x0 x1 x2 x3 x4 Z726
    else
      g197_init_h243 sg K n x0 x1 x2 x3 ((x4 - x4 / 9 * 9) + 1) Z726
    else none
set_option maxRecDepth 100000 in
theorem g197_init_h243_ok {sg : Nat → Nat} (K : Nat → Nat → Nat → Int32 → Int32 → mjQ → Option (Unit × mjQ)) (hK : ∀ (x0 : Nat) (x1 : Nat) (x2 : Nat) (x3 : Int32) (x4 : Int32) (d5 d6 d7 : Option Value) (Z : mjQ) (v9 : Unit) (Z9 : mjQ), K x0 x1 x2 x3 x4 Z = some (v9, Z9) → pE sg 59 197 272 [some (.ref x0), some (.ref x1), some (.ref x2), some (.int x3), some (.int x4), d5, d6, d7] [] Z (fun r M1 => r = none ∧ M1 = Z9)) : ∀ (n : Nat) (x0 : Nat) (x1 : Nat) (x2 : Nat) (x3 : Int32) (x4 : Int32) (d5 d6 d7 : Option Value) (Z : mjQ) (v9 : Unit) (Z9 : mjQ), g197_init_h243 sg K n x0 x1 x2 x3 x4 Z = some (v9, Z9) → pE sg 59 197 243 [some (.ref x0), some (.ref x1), some (.ref x2), some (.int x3), some (.int x4), d5, d6, d7] [] Z (fun r M1 => r = none ∧ M1 = Z9)
  | 0, x0, x1, x2, x3, x4, d5, d6, d7, Z, v9, Z9, h => by rw [g197_init_h243] at h; cases h
  | n + 1, x0, x1, x2, x3, x4, d5, d6, d7, Z, v9, Z9, h => by
      rw [g197_init_h243] at h
      refine pE_many 1 (pc1 := 244) (L1 := [some (.ref x0), some (.ref x1), some (.ref x2), some (.int x3), some (.int x4), d5, d6, d7]) (st1 := [.ref x0]) rfl ?_
      cases hq723 : qR Z.2 x0 16 8 with
      | none => rw [hq723] at h; cases h
      | some v722 =>
        rw [hq723, mjBp_some] at h
        refine pE_gR rfl rfl hq723 ?_
        refine pE_many 1 (pc1 := 249) (L1 := [some (.ref x0), some (.ref x1), some (.ref x2), some (.int x3), some (.int x4), d5, d6, d7]) (st1 := [.int x4, .ref v722]) rfl ?_
        cases hq724 : g223_valueOf sg x4 Z with
        | none => rw [hq724] at h; cases h
        | some w =>
          obtain ⟨v725, Z726⟩ := w
          rw [hq724, mjBq_some] at h
          refine pE_call (k2 := 223) (As := [.int x4]) (rest := [.ref v722]) (w := 3) rfl (by decide) (by decide) (g223_valueOf_ok hq724) ?_
          show pE sg 59 197 252 [some (.ref x0), some (.ref x1), some (.ref x2), some (.int x3), some (.int x4), d5, d6, d7] [.ref v725, .ref v722] Z726 _
          have hk727 : mjRo Z726.2 v722 20 = true := by
            by_cases q9 : mjRo Z726.2 v722 20 = true
            · exact q9
            · rw [if_neg q9] at h; cases h
          rw [if_pos hk727] at h
          cases hq728 : g242_contains v722 v725 Z726 with
          | none => rw [hq728] at h; cases h
          | some v729 =>
            rw [hq728, mjBp_some] at h
            refine pE_callI (k2 := 242) (As := [.ref v725]) (rest := []) rfl rfl rfl rfl rfl rfl hk727 (by decide) (by decide) (by decide) (g242_contains_ok hq728) ?_
            show pE sg 59 197 257 [some (.ref x0), some (.ref x1), some (.ref x2), some (.int x3), some (.int x4), d5, d6, d7] [.int v729] Z726 _
            by_cases hc731 : mjCmp .eq v729 0 = true
            · rw [if_pos hc731] at h
              refine pE_ift (t := 272) rfl rfl hc731 ?_
              exact hK x0 x1 x2 x3 x4 d5 d6 d7 Z726 v9 Z9 h
            · rw [if_neg hc731] at h
              refine pE_iff (t := 272) rfl rfl hc731 ?_
              refine pE_many 2 (pc1 := 264) (L1 := [some (.ref x0), some (.ref x1), some (.ref x2), some (.int x3), some (.int x4), d5, d6, d7]) (st1 := [.int 9, .int x4]) rfl ?_
              refine pE_rem rfl (by decide) ?_
              refine pE_many 4 (pc1 := 243) (L1 := [some (.ref x0), some (.ref x1), some (.ref x2), some (.int x3), some (.int ((x4 - x4 / 9 * 9) + 1)), d5, d6, d7]) (st1 := []) rfl ?_
              exact g197_init_h243_ok K hK n x0 x1 x2 x3 ((x4 - x4 / 9 * 9) + 1) d5 d6 d7 Z726 v9 Z9 h
def g197_init_h229 (sg : Nat → Nat) : Nat → Nat → Nat → Nat → Int32 → mjQ → Option (Unit × mjQ)
  | 0, _, _, _, _, _ => none
  | n + 1, x0, x1, x2, x3, Z =>
    if mjCmp .le x3 0 = true then
      g197_init_h360 sg mjF x0 x1 x2 0 Z
    else
      if mjRo Z.2 x0 16 = true then
      mjBq (g195_next sg x0 9 Z) fun v720 Z721 =>
      g197_init_h243 sg (fun x0_Z732 x1_Z732 x2_Z732 x3_Z732 x4_Z732 Z732 =>
        if mjRo Z732.2 x2_Z732 19 = true then
        mjBq (g233_append sg x2_Z732 1000044 Z732) fun v735 Z736 =>
        mjBp (qR Z736.2 x0_Z732 16 8) fun v737 =>
        if mjRo Z736.2 v737 20 = true then
        mjBp (g249_size v737 Z736) fun v741 =>
        if mjRo Z736.2 v735 19 = true then
        mjBq (g229_append sg v735 (((97 + v741).toUInt32 % 65536).toInt32) Z736) fun v745 Z746 =>
        if mjRo Z746.2 v745 19 = true then
        mjBq (g233_append sg v745 1000042 Z746) fun v749 Z750 =>
        if mjRo Z750.2 v749 19 = true then
        mjBq (g230_append sg v749 x4_Z732 Z750) fun v753 Z754 =>
        if mjRo Z754.2 v753 19 = true then
        mjBq (g233_append sg v753 1000043 Z754) fun v757 Z758 =>
        mjBp (qR Z758.2 x0_Z732 16 8) fun v759 =>
        mjBq (g223_valueOf sg x4_Z732 Z758) fun v762 Z763 =>
        if mjRo Z763.2 v759 20 = true then
        mjBq (g240_add sg v759 v762 Z763) fun v766 Z767 =>
        mjBp (qR Z767.2 x0_Z732 16 9) fun v768 =>
        mjBq (qNew sg Z767 (20, 0)) fun v770 Z772 =>
        mjBq (g239_init sg v770 Z772) fun _ Z775 =>
        if mjRo Z775.2 v768 20 = true then
        mjBq (g240_add sg v768 v770 Z775) fun v778 Z779 =>
        mjBp (qI Z779.2 x0_Z732 16 7) fun v780 =>
        mjBp (qSi Z779 x0_Z732 16 7 (v780 + 1)) fun Z782 =>
        g197_init_h229 sg n x0_Z732 x1_Z732 x2_Z732 (x3_Z732 + (-1)) Z782
        else none
        else none
        else none
        else none
        else none
        else none
        else none
        else none
        ) mjF x0 x1 x2 x3 (1 + v720) Z721
      else none
set_option maxRecDepth 100000 in
theorem g197_init_h229_ok {sg : Nat → Nat} : ∀ (n : Nat) (x0 : Nat) (x1 : Nat) (x2 : Nat) (x3 : Int32) (d4 d5 d6 d7 : Option Value) (Z : mjQ) (v9 : Unit) (Z9 : mjQ), g197_init_h229 sg n x0 x1 x2 x3 Z = some (v9, Z9) → pE sg 59 197 229 [some (.ref x0), some (.ref x1), some (.ref x2), some (.int x3), d4, d5, d6, d7] [] Z (fun r M1 => r = none ∧ M1 = Z9)
  | 0, x0, x1, x2, x3, d4, d5, d6, d7, Z, v9, Z9, h => by rw [g197_init_h229] at h; cases h
  | n + 1, x0, x1, x2, x3, d4, d5, d6, d7, Z, v9, Z9, h => by
      rw [g197_init_h229] at h
      refine pE_many 1 (pc1 := 230) (L1 := [some (.ref x0), some (.ref x1), some (.ref x2), some (.int x3), d4, d5, d6, d7]) (st1 := [.int x3]) rfl ?_
      by_cases hc252 : mjCmp .le x3 0 = true
      · rw [if_pos hc252] at h
        refine pE_ift (t := 358) rfl rfl hc252 ?_
        refine pE_many 2 (pc1 := 360) (L1 := [some (.ref x0), some (.ref x1), some (.ref x2), some (.int 0), d4, d5, d6, d7]) (st1 := []) rfl ?_
        exact g197_init_h360_ok mjF x0 x1 x2 0 d4 d5 d6 d7 Z v9 Z9 h
      · rw [if_neg hc252] at h
        refine pE_iff (t := 358) rfl rfl hc252 ?_
        refine pE_many 3 (pc1 := 237) (L1 := [some (.ref x0), some (.ref x1), some (.ref x2), some (.int x3), d4, d5, d6, d7]) (st1 := [.int 9, .ref x0, .int 1]) rfl ?_
        have hk718 : mjRo Z.2 x0 16 = true := by
          by_cases q9 : mjRo Z.2 x0 16 = true
          · exact q9
          · rw [if_neg q9] at h; cases h
        rw [if_pos hk718] at h
        cases hq719 : g195_next sg x0 9 Z with
        | none => rw [hq719] at h; cases h
        | some w =>
          obtain ⟨v720, Z721⟩ := w
          rw [hq719, mjBq_some] at h
          refine pE_callV (k2 := 195) (As := [.int 9]) (rest := [.int 1]) rfl rfl rfl rfl rfl rfl hk718 (by decide) (by decide) (by decide) (g195_next_ok hq719) ?_
          show pE sg 59 197 240 [some (.ref x0), some (.ref x1), some (.ref x2), some (.int x3), d4, d5, d6, d7] [.int v720, .int 1] Z721 _
          refine pE_many 2 (pc1 := 243) (L1 := [some (.ref x0), some (.ref x1), some (.ref x2), some (.int x3), some (.int (1 + v720)), d5, d6, d7]) (st1 := []) rfl ?_
          refine g197_init_h243_ok _ ?_ mjF x0 x1 x2 x3 (1 + v720) d5 d6 d7 Z721 v9 Z9 h
          clear h
          intro x0_Z732 x1_Z732 x2_Z732 x3_Z732 x4_Z732 d5 d6 d7 Z732 v9 Z9 h
          refine pE_many 2 (pc1 := 275) (L1 := [some (.ref x0_Z732), some (.ref x1_Z732), some (.ref x2_Z732), some (.int x3_Z732), some (.int x4_Z732), d5, d6, d7]) (st1 := [.ref 1000044, .ref x2_Z732]) rfl ?_
          have hk733 : mjRo Z732.2 x2_Z732 19 = true := by
            by_cases q9 : mjRo Z732.2 x2_Z732 19 = true
            · exact q9
            · rw [if_neg q9] at h; cases h
          rw [if_pos hk733] at h
          cases hq734 : g233_append sg x2_Z732 1000044 Z732 with
          | none => rw [hq734] at h; cases h
          | some w =>
            obtain ⟨v735, Z736⟩ := w
            rw [hq734, mjBq_some] at h
            refine pE_callV (k2 := 233) (As := [.ref 1000044]) (rest := []) rfl rfl rfl rfl rfl rfl hk733 (by decide) (by decide) (by decide) (g233_append_ok hq734) ?_
            show pE sg 59 197 278 [some (.ref x0_Z732), some (.ref x1_Z732), some (.ref x2_Z732), some (.int x3_Z732), some (.int x4_Z732), d5, d6, d7] [.ref v735] Z736 _
            refine pE_many 2 (pc1 := 281) (L1 := [some (.ref x0_Z732), some (.ref x1_Z732), some (.ref x2_Z732), some (.int x3_Z732), some (.int x4_Z732), d5, d6, d7]) (st1 := [.ref x0_Z732, .int 97, .ref v735]) rfl ?_
            cases hq738 : qR Z736.2 x0_Z732 16 8 with
            | none => rw [hq738] at h; cases h
            | some v737 =>
              rw [hq738, mjBp_some] at h
              refine pE_gR rfl rfl hq738 ?_
              have hk739 : mjRo Z736.2 v737 20 = true := by
                by_cases q9 : mjRo Z736.2 v737 20 = true
                · exact q9
                · rw [if_neg q9] at h; cases h
              rw [if_pos hk739] at h
              cases hq740 : g249_size v737 Z736 with
              | none => rw [hq740] at h; cases h
              | some v741 =>
                rw [hq740, mjBp_some] at h
                refine pE_callI (k2 := 249) (As := []) (rest := [.int 97, .ref v735]) rfl rfl rfl rfl rfl rfl hk739 (by decide) (by decide) (by decide) (g249_size_ok hq740) ?_
                show pE sg 59 197 289 [some (.ref x0_Z732), some (.ref x1_Z732), some (.ref x2_Z732), some (.int x3_Z732), some (.int x4_Z732), d5, d6, d7] [.int v741, .int 97, .ref v735] Z736 _
                refine pE_many 2 (pc1 := 291) (L1 := [some (.ref x0_Z732), some (.ref x1_Z732), some (.ref x2_Z732), some (.int x3_Z732), some (.int x4_Z732), d5, d6, d7]) (st1 := [.int (((97 + v741).toUInt32 % 65536).toInt32), .ref v735]) rfl ?_
                have hk743 : mjRo Z736.2 v735 19 = true := by
                  by_cases q9 : mjRo Z736.2 v735 19 = true
                  · exact q9
                  · rw [if_neg q9] at h; cases h
                rw [if_pos hk743] at h
                cases hq744 : g229_append sg v735 (((97 + v741).toUInt32 % 65536).toInt32) Z736 with
                | none => rw [hq744] at h; cases h
                | some w =>
                  obtain ⟨v745, Z746⟩ := w
                  rw [hq744, mjBq_some] at h
                  refine pE_callV (k2 := 229) (As := [.int (((97 + v741).toUInt32 % 65536).toInt32)]) (rest := []) rfl rfl rfl rfl rfl rfl hk743 (by decide) (by decide) (by decide) (g229_append_ok hq744) ?_
                  show pE sg 59 197 294 [some (.ref x0_Z732), some (.ref x1_Z732), some (.ref x2_Z732), some (.int x3_Z732), some (.int x4_Z732), d5, d6, d7] [.ref v745] Z746 _
                  refine pE_many 1 (pc1 := 296) (L1 := [some (.ref x0_Z732), some (.ref x1_Z732), some (.ref x2_Z732), some (.int x3_Z732), some (.int x4_Z732), d5, d6, d7]) (st1 := [.ref 1000042, .ref v745]) rfl ?_
                  have hk747 : mjRo Z746.2 v745 19 = true := by
                    by_cases q9 : mjRo Z746.2 v745 19 = true
                    · exact q9
                    · rw [if_neg q9] at h; cases h
                  rw [if_pos hk747] at h
                  cases hq748 : g233_append sg v745 1000042 Z746 with
                  | none => rw [hq748] at h; cases h
                  | some w =>
                    obtain ⟨v749, Z750⟩ := w
                    rw [hq748, mjBq_some] at h
                    refine pE_callV (k2 := 233) (As := [.ref 1000042]) (rest := []) rfl rfl rfl rfl rfl rfl hk747 (by decide) (by decide) (by decide) (g233_append_ok hq748) ?_
                    show pE sg 59 197 299 [some (.ref x0_Z732), some (.ref x1_Z732), some (.ref x2_Z732), some (.int x3_Z732), some (.int x4_Z732), d5, d6, d7] [.ref v749] Z750 _
                    refine pE_many 1 (pc1 := 301) (L1 := [some (.ref x0_Z732), some (.ref x1_Z732), some (.ref x2_Z732), some (.int x3_Z732), some (.int x4_Z732), d5, d6, d7]) (st1 := [.int x4_Z732, .ref v749]) rfl ?_
                    have hk751 : mjRo Z750.2 v749 19 = true := by
                      by_cases q9 : mjRo Z750.2 v749 19 = true
                      · exact q9
                      · rw [if_neg q9] at h; cases h
                    rw [if_pos hk751] at h
                    cases hq752 : g230_append sg v749 x4_Z732 Z750 with
                    | none => rw [hq752] at h; cases h
                    | some w =>
                      obtain ⟨v753, Z754⟩ := w
                      rw [hq752, mjBq_some] at h
                      refine pE_callV (k2 := 230) (As := [.int x4_Z732]) (rest := []) rfl rfl rfl rfl rfl rfl hk751 (by decide) (by decide) (by decide) (g230_append_ok hq752) ?_
                      show pE sg 59 197 304 [some (.ref x0_Z732), some (.ref x1_Z732), some (.ref x2_Z732), some (.int x3_Z732), some (.int x4_Z732), d5, d6, d7] [.ref v753] Z754 _
                      refine pE_many 1 (pc1 := 306) (L1 := [some (.ref x0_Z732), some (.ref x1_Z732), some (.ref x2_Z732), some (.int x3_Z732), some (.int x4_Z732), d5, d6, d7]) (st1 := [.ref 1000043, .ref v753]) rfl ?_
                      have hk755 : mjRo Z754.2 v753 19 = true := by
                        by_cases q9 : mjRo Z754.2 v753 19 = true
                        · exact q9
                        · rw [if_neg q9] at h; cases h
                      rw [if_pos hk755] at h
                      cases hq756 : g233_append sg v753 1000043 Z754 with
                      | none => rw [hq756] at h; cases h
                      | some w =>
                        obtain ⟨v757, Z758⟩ := w
                        rw [hq756, mjBq_some] at h
                        refine pE_callV (k2 := 233) (As := [.ref 1000043]) (rest := []) rfl rfl rfl rfl rfl rfl hk755 (by decide) (by decide) (by decide) (g233_append_ok hq756) ?_
                        show pE sg 59 197 309 [some (.ref x0_Z732), some (.ref x1_Z732), some (.ref x2_Z732), some (.int x3_Z732), some (.int x4_Z732), d5, d6, d7] [.ref v757] Z758 _
                        refine pE_many 2 (pc1 := 311) (L1 := [some (.ref x0_Z732), some (.ref x1_Z732), some (.ref x2_Z732), some (.int x3_Z732), some (.int x4_Z732), d5, d6, d7]) (st1 := [.ref x0_Z732]) rfl ?_
                        cases hq760 : qR Z758.2 x0_Z732 16 8 with
                        | none => rw [hq760] at h; cases h
                        | some v759 =>
                          rw [hq760, mjBp_some] at h
                          refine pE_gR rfl rfl hq760 ?_
                          refine pE_many 1 (pc1 := 316) (L1 := [some (.ref x0_Z732), some (.ref x1_Z732), some (.ref x2_Z732), some (.int x3_Z732), some (.int x4_Z732), d5, d6, d7]) (st1 := [.int x4_Z732, .ref v759]) rfl ?_
                          cases hq761 : g223_valueOf sg x4_Z732 Z758 with
                          | none => rw [hq761] at h; cases h
                          | some w =>
                            obtain ⟨v762, Z763⟩ := w
                            rw [hq761, mjBq_some] at h
                            refine pE_call (k2 := 223) (As := [.int x4_Z732]) (rest := [.ref v759]) (w := 3) rfl (by decide) (by decide) (g223_valueOf_ok hq761) ?_
                            show pE sg 59 197 319 [some (.ref x0_Z732), some (.ref x1_Z732), some (.ref x2_Z732), some (.int x3_Z732), some (.int x4_Z732), d5, d6, d7] [.ref v762, .ref v759] Z763 _
                            have hk764 : mjRo Z763.2 v759 20 = true := by
                              by_cases q9 : mjRo Z763.2 v759 20 = true
                              · exact q9
                              · rw [if_neg q9] at h; cases h
                            rw [if_pos hk764] at h
                            cases hq765 : g240_add sg v759 v762 Z763 with
                            | none => rw [hq765] at h; cases h
                            | some w =>
                              obtain ⟨v766, Z767⟩ := w
                              rw [hq765, mjBq_some] at h
                              refine pE_callI (k2 := 240) (As := [.ref v762]) (rest := []) rfl rfl rfl rfl rfl rfl hk764 (by decide) (by decide) (by decide) (g240_add_ok hq765) ?_
                              show pE sg 59 197 324 [some (.ref x0_Z732), some (.ref x1_Z732), some (.ref x2_Z732), some (.int x3_Z732), some (.int x4_Z732), d5, d6, d7] [.int v766] Z767 _
                              refine pE_many 2 (pc1 := 326) (L1 := [some (.ref x0_Z732), some (.ref x1_Z732), some (.ref x2_Z732), some (.int x3_Z732), some (.int x4_Z732), d5, d6, d7]) (st1 := [.ref x0_Z732]) rfl ?_
                              cases hq769 : qR Z767.2 x0_Z732 16 9 with
                              | none => rw [hq769] at h; cases h
                              | some v768 =>
                                rw [hq769, mjBp_some] at h
                                refine pE_gR rfl rfl hq769 ?_
                                cases hq771 : qNew sg Z767 (20, 0) with
                                | none => rw [hq771] at h; cases h
                                | some w =>
                                  obtain ⟨v770, Z772⟩ := w
                                  rw [hq771, mjBq_some] at h
                                  refine pE_newO rfl rfl (by decide) hq771 ?_
                                  refine pE_many 1 (pc1 := 333) (L1 := [some (.ref x0_Z732), some (.ref x1_Z732), some (.ref x2_Z732), some (.int x3_Z732), some (.int x4_Z732), d5, d6, d7]) (st1 := [.ref v770, .ref v770, .ref v768]) rfl ?_
                                  cases hq773 : g239_init sg v770 Z772 with
                                  | none => rw [hq773] at h; cases h
                                  | some w =>
                                    obtain ⟨v774, Z775⟩ := w
                                    rw [hq773, mjBq_some] at h
                                    refine pE_call (k2 := 239) (As := [.ref v770]) (rest := [.ref v770, .ref v768]) (w := 3) rfl (by decide) (by decide) (g239_init_ok hq773) ?_
                                    show pE sg 59 197 336 [some (.ref x0_Z732), some (.ref x1_Z732), some (.ref x2_Z732), some (.int x3_Z732), some (.int x4_Z732), d5, d6, d7] [.ref v770, .ref v768] Z775 _
                                    have hk776 : mjRo Z775.2 v768 20 = true := by
                                      by_cases q9 : mjRo Z775.2 v768 20 = true
                                      · exact q9
                                      · rw [if_neg q9] at h; cases h
                                    rw [if_pos hk776] at h
                                    cases hq777 : g240_add sg v768 v770 Z775 with
                                    | none => rw [hq777] at h; cases h
                                    | some w =>
                                      obtain ⟨v778, Z779⟩ := w
                                      rw [hq777, mjBq_some] at h
                                      refine pE_callI (k2 := 240) (As := [.ref v770]) (rest := []) rfl rfl rfl rfl rfl rfl hk776 (by decide) (by decide) (by decide) (g240_add_ok hq777) ?_
                                      show pE sg 59 197 341 [some (.ref x0_Z732), some (.ref x1_Z732), some (.ref x2_Z732), some (.int x3_Z732), some (.int x4_Z732), d5, d6, d7] [.int v778] Z779 _
                                      refine pE_many 3 (pc1 := 344) (L1 := [some (.ref x0_Z732), some (.ref x1_Z732), some (.ref x2_Z732), some (.int x3_Z732), some (.int x4_Z732), d5, d6, d7]) (st1 := [.ref x0_Z732, .ref x0_Z732]) rfl ?_
                                      cases hq781 : qI Z779.2 x0_Z732 16 7 with
                                      | none => rw [hq781] at h; cases h
                                      | some v780 =>
                                        rw [hq781, mjBp_some] at h
                                        refine pE_gI rfl rfl hq781 ?_
                                        refine pE_many 2 (pc1 := 349) (L1 := [some (.ref x0_Z732), some (.ref x1_Z732), some (.ref x2_Z732), some (.int x3_Z732), some (.int x4_Z732), d5, d6, d7]) (st1 := [.int (v780 + 1), .ref x0_Z732]) rfl ?_
                                        cases hq783 : qSi Z779 x0_Z732 16 7 (v780 + 1) with
                                        | none => rw [hq783] at h; cases h
                                        | some Z782 =>
                                          rw [hq783, mjBp_some] at h
                                          refine pE_pI rfl rfl (by decide) (by decide) hq783 ?_
                                          refine pE_many 2 (pc1 := 229) (L1 := [some (.ref x0_Z732), some (.ref x1_Z732), some (.ref x2_Z732), some (.int (x3_Z732 + (-1))), some (.int x4_Z732), d5, d6, d7]) (st1 := []) rfl ?_
                                          exact g197_init_h229_ok n x0_Z732 x1_Z732 x2_Z732 (x3_Z732 + (-1)) (some (.int x4_Z732)) d5 d6 d7 Z782 v9 Z9 h
def g197_init_j135 (sg : Nat → Nat) (x0 : Nat) (x1 : Nat) (s0 : Nat) (s1 : Int32) (Z : mjQ) : Option (Unit × mjQ) :=
  mjBp (qSi Z s0 16 4 s1) fun Z176 =>
  mjBq (qNew sg Z176 (19, 0)) fun v178 Z180 =>
  mjBq (qNew sg Z180 (19, 0)) fun v181 Z183 =>
  mjBq (g227_init sg v181 Z183) fun _ Z186 =>
  if mjRo Z186.2 v181 19 = true then
  mjBq (g233_append sg v181 1000041 Z186) fun v189 Z190 =>
  mjBp (qI Z190.2 x0 16 0) fun v191 =>
  if mjRo Z190.2 v189 19 = true then
  mjBq (g230_append sg v189 v191 Z190) fun v195 Z196 =>
  if mjRo Z196.2 v195 19 = true then
  mjBq (g233_append sg v195 1000042 Z196) fun v199 Z200 =>
  mjBp (qI Z200.2 x0 16 1) fun v201 =>
  if mjRo Z200.2 v199 19 = true then
  mjBq (g230_append sg v199 v201 Z200) fun v205 Z206 =>
  if mjRo Z206.2 v205 19 = true then
  mjBq (g233_append sg v205 1000042 Z206) fun v209 Z210 =>
  mjBp (qI Z210.2 x0 16 2) fun v211 =>
  if mjRo Z210.2 v209 19 = true then
  mjBq (g230_append sg v209 v211 Z210) fun v215 Z216 =>
  if mjRo Z216.2 v215 19 = true then
  mjBq (g233_append sg v215 1000042 Z216) fun v219 Z220 =>
  mjBp (qI Z220.2 x0 16 3) fun v221 =>
  if mjRo Z220.2 v219 19 = true then
  mjBq (g230_append sg v219 v221 Z220) fun v225 Z226 =>
  if mjRo Z226.2 v225 19 = true then
  mjBq (g233_append sg v225 1000042 Z226) fun v229 Z230 =>
  mjBp (qI Z230.2 x0 16 4) fun v231 =>
  if mjRo Z230.2 v229 19 = true then
  mjBq (g230_append sg v229 v231 Z230) fun v235 Z236 =>
  if mjRo Z236.2 v235 19 = true then
  mjBq (g233_append sg v235 1000043 Z236) fun v239 Z240 =>
  if mjRo Z240.2 v239 19 = true then
  mjBq (g235_toString sg v239 Z240) fun v243 Z244 =>
  mjBq (g228_init sg v178 v243 Z244) fun _ Z247 =>
  if mjRo Z247.2 x0 16 = true then
  mjBq (g195_next sg x0 3 Z247) fun v250 Z251 =>
  g197_init_h229 sg mjF x0 x1 v178 (1 + v250) Z251
  else none
  else none
  else none
  else none
  else none
  else none
  else none
  else none
  else none
  else none
  else none
  else none
  else none
set_option maxRecDepth 100000 in
theorem g197_init_j135_ok {sg : Nat → Nat} (x0 : Nat) (x1 : Nat) (s0 : Nat) (s1 : Int32) (d2 d3 d4 d5 d6 d7 : Option Value) (Z : mjQ) (v9 : Unit) (Z9 : mjQ) (h : g197_init_j135 sg x0 x1 s0 s1 Z = some (v9, Z9)) : pE sg 59 197 135 [some (.ref x0), some (.ref x1), d2, d3, d4, d5, d6, d7] [.int s1, .ref s0] Z (fun r M1 => r = none ∧ M1 = Z9) := by
  unfold g197_init_j135 at h
  cases hq177 : qSi Z s0 16 4 s1 with
  | none => rw [hq177] at h; cases h
  | some Z176 =>
    rw [hq177, mjBp_some] at h
    refine pE_pI rfl rfl (by decide) (by decide) hq177 ?_
    cases hq179 : qNew sg Z176 (19, 0) with
    | none => rw [hq179] at h; cases h
    | some w =>
      obtain ⟨v178, Z180⟩ := w
      rw [hq179, mjBq_some] at h
      refine pE_newO rfl rfl (by decide) hq179 ?_
      refine pE_many 1 (pc1 := 142) (L1 := [some (.ref x0), some (.ref x1), d2, d3, d4, d5, d6, d7]) (st1 := [.ref v178, .ref v178]) rfl ?_
      cases hq182 : qNew sg Z180 (19, 0) with
      | none => rw [hq182] at h; cases h
      | some w =>
        obtain ⟨v181, Z183⟩ := w
        rw [hq182, mjBq_some] at h
        refine pE_newO rfl rfl (by decide) hq182 ?_
        refine pE_many 1 (pc1 := 146) (L1 := [some (.ref x0), some (.ref x1), d2, d3, d4, d5, d6, d7]) (st1 := [.ref v181, .ref v181, .ref v178, .ref v178]) rfl ?_
        cases hq184 : g227_init sg v181 Z183 with
        | none => rw [hq184] at h; cases h
        | some w =>
          obtain ⟨v185, Z186⟩ := w
          rw [hq184, mjBq_some] at h
          refine pE_call (k2 := 227) (As := [.ref v181]) (rest := [.ref v181, .ref v178, .ref v178]) (w := 3) rfl (by decide) (by decide) (g227_init_ok hq184) ?_
          show pE sg 59 197 149 [some (.ref x0), some (.ref x1), d2, d3, d4, d5, d6, d7] [.ref v181, .ref v178, .ref v178] Z186 _
          refine pE_many 1 (pc1 := 151) (L1 := [some (.ref x0), some (.ref x1), d2, d3, d4, d5, d6, d7]) (st1 := [.ref 1000041, .ref v181, .ref v178, .ref v178]) rfl ?_
          have hk187 : mjRo Z186.2 v181 19 = true := by
            by_cases q9 : mjRo Z186.2 v181 19 = true
            · exact q9
            · rw [if_neg q9] at h; cases h
          rw [if_pos hk187] at h
          cases hq188 : g233_append sg v181 1000041 Z186 with
          | none => rw [hq188] at h; cases h
          | some w =>
            obtain ⟨v189, Z190⟩ := w
            rw [hq188, mjBq_some] at h
            refine pE_callV (k2 := 233) (As := [.ref 1000041]) (rest := [.ref v178, .ref v178]) rfl rfl rfl rfl rfl rfl hk187 (by decide) (by decide) (by decide) (g233_append_ok hq188) ?_
            show pE sg 59 197 154 [some (.ref x0), some (.ref x1), d2, d3, d4, d5, d6, d7] [.ref v189, .ref v178, .ref v178] Z190 _
            refine pE_many 1 (pc1 := 155) (L1 := [some (.ref x0), some (.ref x1), d2, d3, d4, d5, d6, d7]) (st1 := [.ref x0, .ref v189, .ref v178, .ref v178]) rfl ?_
            cases hq192 : qI Z190.2 x0 16 0 with
            | none => rw [hq192] at h; cases h
            | some v191 =>
              rw [hq192, mjBp_some] at h
              refine pE_gI rfl rfl hq192 ?_
              have hk193 : mjRo Z190.2 v189 19 = true := by
                by_cases q9 : mjRo Z190.2 v189 19 = true
                · exact q9
                · rw [if_neg q9] at h; cases h
              rw [if_pos hk193] at h
              cases hq194 : g230_append sg v189 v191 Z190 with
              | none => rw [hq194] at h; cases h
              | some w =>
                obtain ⟨v195, Z196⟩ := w
                rw [hq194, mjBq_some] at h
                refine pE_callV (k2 := 230) (As := [.int v191]) (rest := [.ref v178, .ref v178]) rfl rfl rfl rfl rfl rfl hk193 (by decide) (by decide) (by decide) (g230_append_ok hq194) ?_
                show pE sg 59 197 161 [some (.ref x0), some (.ref x1), d2, d3, d4, d5, d6, d7] [.ref v195, .ref v178, .ref v178] Z196 _
                refine pE_many 1 (pc1 := 163) (L1 := [some (.ref x0), some (.ref x1), d2, d3, d4, d5, d6, d7]) (st1 := [.ref 1000042, .ref v195, .ref v178, .ref v178]) rfl ?_
                have hk197 : mjRo Z196.2 v195 19 = true := by
                  by_cases q9 : mjRo Z196.2 v195 19 = true
                  · exact q9
                  · rw [if_neg q9] at h; cases h
                rw [if_pos hk197] at h
                cases hq198 : g233_append sg v195 1000042 Z196 with
                | none => rw [hq198] at h; cases h
                | some w =>
                  obtain ⟨v199, Z200⟩ := w
                  rw [hq198, mjBq_some] at h
                  refine pE_callV (k2 := 233) (As := [.ref 1000042]) (rest := [.ref v178, .ref v178]) rfl rfl rfl rfl rfl rfl hk197 (by decide) (by decide) (by decide) (g233_append_ok hq198) ?_
                  show pE sg 59 197 166 [some (.ref x0), some (.ref x1), d2, d3, d4, d5, d6, d7] [.ref v199, .ref v178, .ref v178] Z200 _
                  refine pE_many 1 (pc1 := 167) (L1 := [some (.ref x0), some (.ref x1), d2, d3, d4, d5, d6, d7]) (st1 := [.ref x0, .ref v199, .ref v178, .ref v178]) rfl ?_
                  cases hq202 : qI Z200.2 x0 16 1 with
                  | none => rw [hq202] at h; cases h
                  | some v201 =>
                    rw [hq202, mjBp_some] at h
                    refine pE_gI rfl rfl hq202 ?_
                    have hk203 : mjRo Z200.2 v199 19 = true := by
                      by_cases q9 : mjRo Z200.2 v199 19 = true
                      · exact q9
                      · rw [if_neg q9] at h; cases h
                    rw [if_pos hk203] at h
                    cases hq204 : g230_append sg v199 v201 Z200 with
                    | none => rw [hq204] at h; cases h
                    | some w =>
                      obtain ⟨v205, Z206⟩ := w
                      rw [hq204, mjBq_some] at h
                      refine pE_callV (k2 := 230) (As := [.int v201]) (rest := [.ref v178, .ref v178]) rfl rfl rfl rfl rfl rfl hk203 (by decide) (by decide) (by decide) (g230_append_ok hq204) ?_
                      show pE sg 59 197 173 [some (.ref x0), some (.ref x1), d2, d3, d4, d5, d6, d7] [.ref v205, .ref v178, .ref v178] Z206 _
                      refine pE_many 1 (pc1 := 175) (L1 := [some (.ref x0), some (.ref x1), d2, d3, d4, d5, d6, d7]) (st1 := [.ref 1000042, .ref v205, .ref v178, .ref v178]) rfl ?_
                      have hk207 : mjRo Z206.2 v205 19 = true := by
                        by_cases q9 : mjRo Z206.2 v205 19 = true
                        · exact q9
                        · rw [if_neg q9] at h; cases h
                      rw [if_pos hk207] at h
                      cases hq208 : g233_append sg v205 1000042 Z206 with
                      | none => rw [hq208] at h; cases h
                      | some w =>
                        obtain ⟨v209, Z210⟩ := w
                        rw [hq208, mjBq_some] at h
                        refine pE_callV (k2 := 233) (As := [.ref 1000042]) (rest := [.ref v178, .ref v178]) rfl rfl rfl rfl rfl rfl hk207 (by decide) (by decide) (by decide) (g233_append_ok hq208) ?_
                        show pE sg 59 197 178 [some (.ref x0), some (.ref x1), d2, d3, d4, d5, d6, d7] [.ref v209, .ref v178, .ref v178] Z210 _
                        refine pE_many 1 (pc1 := 179) (L1 := [some (.ref x0), some (.ref x1), d2, d3, d4, d5, d6, d7]) (st1 := [.ref x0, .ref v209, .ref v178, .ref v178]) rfl ?_
                        cases hq212 : qI Z210.2 x0 16 2 with
                        | none => rw [hq212] at h; cases h
                        | some v211 =>
                          rw [hq212, mjBp_some] at h
                          refine pE_gI rfl rfl hq212 ?_
                          have hk213 : mjRo Z210.2 v209 19 = true := by
                            by_cases q9 : mjRo Z210.2 v209 19 = true
                            · exact q9
                            · rw [if_neg q9] at h; cases h
                          rw [if_pos hk213] at h
                          cases hq214 : g230_append sg v209 v211 Z210 with
                          | none => rw [hq214] at h; cases h
                          | some w =>
                            obtain ⟨v215, Z216⟩ := w
                            rw [hq214, mjBq_some] at h
                            refine pE_callV (k2 := 230) (As := [.int v211]) (rest := [.ref v178, .ref v178]) rfl rfl rfl rfl rfl rfl hk213 (by decide) (by decide) (by decide) (g230_append_ok hq214) ?_
                            show pE sg 59 197 185 [some (.ref x0), some (.ref x1), d2, d3, d4, d5, d6, d7] [.ref v215, .ref v178, .ref v178] Z216 _
                            refine pE_many 1 (pc1 := 187) (L1 := [some (.ref x0), some (.ref x1), d2, d3, d4, d5, d6, d7]) (st1 := [.ref 1000042, .ref v215, .ref v178, .ref v178]) rfl ?_
                            have hk217 : mjRo Z216.2 v215 19 = true := by
                              by_cases q9 : mjRo Z216.2 v215 19 = true
                              · exact q9
                              · rw [if_neg q9] at h; cases h
                            rw [if_pos hk217] at h
                            cases hq218 : g233_append sg v215 1000042 Z216 with
                            | none => rw [hq218] at h; cases h
                            | some w =>
                              obtain ⟨v219, Z220⟩ := w
                              rw [hq218, mjBq_some] at h
                              refine pE_callV (k2 := 233) (As := [.ref 1000042]) (rest := [.ref v178, .ref v178]) rfl rfl rfl rfl rfl rfl hk217 (by decide) (by decide) (by decide) (g233_append_ok hq218) ?_
                              show pE sg 59 197 190 [some (.ref x0), some (.ref x1), d2, d3, d4, d5, d6, d7] [.ref v219, .ref v178, .ref v178] Z220 _
                              refine pE_many 1 (pc1 := 191) (L1 := [some (.ref x0), some (.ref x1), d2, d3, d4, d5, d6, d7]) (st1 := [.ref x0, .ref v219, .ref v178, .ref v178]) rfl ?_
                              cases hq222 : qI Z220.2 x0 16 3 with
                              | none => rw [hq222] at h; cases h
                              | some v221 =>
                                rw [hq222, mjBp_some] at h
                                refine pE_gI rfl rfl hq222 ?_
                                have hk223 : mjRo Z220.2 v219 19 = true := by
                                  by_cases q9 : mjRo Z220.2 v219 19 = true
                                  · exact q9
                                  · rw [if_neg q9] at h; cases h
                                rw [if_pos hk223] at h
                                cases hq224 : g230_append sg v219 v221 Z220 with
                                | none => rw [hq224] at h; cases h
                                | some w =>
                                  obtain ⟨v225, Z226⟩ := w
                                  rw [hq224, mjBq_some] at h
                                  refine pE_callV (k2 := 230) (As := [.int v221]) (rest := [.ref v178, .ref v178]) rfl rfl rfl rfl rfl rfl hk223 (by decide) (by decide) (by decide) (g230_append_ok hq224) ?_
                                  show pE sg 59 197 197 [some (.ref x0), some (.ref x1), d2, d3, d4, d5, d6, d7] [.ref v225, .ref v178, .ref v178] Z226 _
                                  refine pE_many 1 (pc1 := 199) (L1 := [some (.ref x0), some (.ref x1), d2, d3, d4, d5, d6, d7]) (st1 := [.ref 1000042, .ref v225, .ref v178, .ref v178]) rfl ?_
                                  have hk227 : mjRo Z226.2 v225 19 = true := by
                                    by_cases q9 : mjRo Z226.2 v225 19 = true
                                    · exact q9
                                    · rw [if_neg q9] at h; cases h
                                  rw [if_pos hk227] at h
                                  cases hq228 : g233_append sg v225 1000042 Z226 with
                                  | none => rw [hq228] at h; cases h
                                  | some w =>
                                    obtain ⟨v229, Z230⟩ := w
                                    rw [hq228, mjBq_some] at h
                                    refine pE_callV (k2 := 233) (As := [.ref 1000042]) (rest := [.ref v178, .ref v178]) rfl rfl rfl rfl rfl rfl hk227 (by decide) (by decide) (by decide) (g233_append_ok hq228) ?_
                                    show pE sg 59 197 202 [some (.ref x0), some (.ref x1), d2, d3, d4, d5, d6, d7] [.ref v229, .ref v178, .ref v178] Z230 _
                                    refine pE_many 1 (pc1 := 203) (L1 := [some (.ref x0), some (.ref x1), d2, d3, d4, d5, d6, d7]) (st1 := [.ref x0, .ref v229, .ref v178, .ref v178]) rfl ?_
                                    cases hq232 : qI Z230.2 x0 16 4 with
                                    | none => rw [hq232] at h; cases h
                                    | some v231 =>
                                      rw [hq232, mjBp_some] at h
                                      refine pE_gI rfl rfl hq232 ?_
                                      have hk233 : mjRo Z230.2 v229 19 = true := by
                                        by_cases q9 : mjRo Z230.2 v229 19 = true
                                        · exact q9
                                        · rw [if_neg q9] at h; cases h
                                      rw [if_pos hk233] at h
                                      cases hq234 : g230_append sg v229 v231 Z230 with
                                      | none => rw [hq234] at h; cases h
                                      | some w =>
                                        obtain ⟨v235, Z236⟩ := w
                                        rw [hq234, mjBq_some] at h
                                        refine pE_callV (k2 := 230) (As := [.int v231]) (rest := [.ref v178, .ref v178]) rfl rfl rfl rfl rfl rfl hk233 (by decide) (by decide) (by decide) (g230_append_ok hq234) ?_
                                        show pE sg 59 197 209 [some (.ref x0), some (.ref x1), d2, d3, d4, d5, d6, d7] [.ref v235, .ref v178, .ref v178] Z236 _
                                        refine pE_many 1 (pc1 := 211) (L1 := [some (.ref x0), some (.ref x1), d2, d3, d4, d5, d6, d7]) (st1 := [.ref 1000043, .ref v235, .ref v178, .ref v178]) rfl ?_
                                        have hk237 : mjRo Z236.2 v235 19 = true := by
                                          by_cases q9 : mjRo Z236.2 v235 19 = true
                                          · exact q9
                                          · rw [if_neg q9] at h; cases h
                                        rw [if_pos hk237] at h
                                        cases hq238 : g233_append sg v235 1000043 Z236 with
                                        | none => rw [hq238] at h; cases h
                                        | some w =>
                                          obtain ⟨v239, Z240⟩ := w
                                          rw [hq238, mjBq_some] at h
                                          refine pE_callV (k2 := 233) (As := [.ref 1000043]) (rest := [.ref v178, .ref v178]) rfl rfl rfl rfl rfl rfl hk237 (by decide) (by decide) (by decide) (g233_append_ok hq238) ?_
                                          show pE sg 59 197 214 [some (.ref x0), some (.ref x1), d2, d3, d4, d5, d6, d7] [.ref v239, .ref v178, .ref v178] Z240 _
                                          have hk241 : mjRo Z240.2 v239 19 = true := by
                                            by_cases q9 : mjRo Z240.2 v239 19 = true
                                            · exact q9
                                            · rw [if_neg q9] at h; cases h
                                          rw [if_pos hk241] at h
                                          cases hq242 : g235_toString sg v239 Z240 with
                                          | none => rw [hq242] at h; cases h
                                          | some w =>
                                            obtain ⟨v243, Z244⟩ := w
                                            rw [hq242, mjBq_some] at h
                                            refine pE_callV (k2 := 235) (As := []) (rest := [.ref v178, .ref v178]) rfl rfl rfl rfl rfl rfl hk241 (by decide) (by decide) (by decide) (g235_toString_ok hq242) ?_
                                            show pE sg 59 197 217 [some (.ref x0), some (.ref x1), d2, d3, d4, d5, d6, d7] [.ref v243, .ref v178, .ref v178] Z244 _
                                            cases hq245 : g228_init sg v178 v243 Z244 with
                                            | none => rw [hq245] at h; cases h
                                            | some w =>
                                              obtain ⟨v246, Z247⟩ := w
                                              rw [hq245, mjBq_some] at h
                                              refine pE_call (k2 := 228) (As := [.ref v178, .ref v243]) (rest := [.ref v178]) (w := 3) rfl (by decide) (by decide) (g228_init_ok hq245) ?_
                                              show pE sg 59 197 220 [some (.ref x0), some (.ref x1), d2, d3, d4, d5, d6, d7] [.ref v178] Z247 _
                                              refine pE_many 4 (pc1 := 224) (L1 := [some (.ref x0), some (.ref x1), some (.ref v178), d3, d4, d5, d6, d7]) (st1 := [.int 3, .ref x0, .int 1]) rfl ?_
                                              have hk248 : mjRo Z247.2 x0 16 = true := by
                                                by_cases q9 : mjRo Z247.2 x0 16 = true
                                                · exact q9
                                                · rw [if_neg q9] at h; cases h
                                              rw [if_pos hk248] at h
                                              cases hq249 : g195_next sg x0 3 Z247 with
                                              | none => rw [hq249] at h; cases h
                                              | some w =>
                                                obtain ⟨v250, Z251⟩ := w
                                                rw [hq249, mjBq_some] at h
                                                refine pE_callV (k2 := 195) (As := [.int 3]) (rest := [.int 1]) rfl rfl rfl rfl rfl rfl hk248 (by decide) (by decide) (by decide) (g195_next_ok hq249) ?_
                                                show pE sg 59 197 227 [some (.ref x0), some (.ref x1), some (.ref v178), d3, d4, d5, d6, d7] [.int v250, .int 1] Z251 _
                                                refine pE_many 2 (pc1 := 229) (L1 := [some (.ref x0), some (.ref x1), some (.ref v178), some (.int (1 + v250)), d4, d5, d6, d7]) (st1 := []) rfl ?_
                                                exact g197_init_h229_ok mjF x0 x1 v178 (1 + v250) d4 d5 d6 d7 Z251 v9 Z9 h
def g197_init (sg : Nat → Nat) (a0 : Nat) (p0 : Nat) (Z : mjQ) : Option (Unit × mjQ) :=
  mjBp (qSi Z a0 16 5 2) fun Z101 =>
  mjBp (qSi Z101 a0 16 6 5) fun Z103 =>
  mjBq (qNew sg Z103 (20, 0)) fun v105 Z107 =>
  mjBq (g239_init sg v105 Z107) fun _ Z110 =>
  mjBp (qSr Z110 a0 16 8 (some v105)) fun Z111 =>
  mjBq (qNew sg Z111 (20, 0)) fun v113 Z115 =>
  mjBq (g239_init sg v113 Z115) fun _ Z118 =>
  mjBp (qSr Z118 a0 16 9 (some v113)) fun Z119 =>
  mjBq (qNew sg Z119 (20, 0)) fun v121 Z123 =>
  mjBq (g239_init sg v121 Z123) fun _ Z126 =>
  mjBp (qSr Z126 a0 16 10 (some v121)) fun Z127 =>
  mjBq (qNew sg Z127 (20, 0)) fun v129 Z131 =>
  mjBq (g239_init sg v129 Z131) fun _ Z134 =>
  mjBp (qSr Z134 a0 16 11 (some v129)) fun Z135 =>
  mjBp (qSi Z135 a0 16 12 ((-1))) fun Z137 =>
  mjBp (qSr Z137 a0 16 14 (some p0)) fun Z139 =>
  if mjRo Z139.2 a0 16 = true then
  mjBq (g195_next sg a0 3 Z139) fun v143 Z144 =>
  mjBp (qSi Z144 a0 16 0 (2 + v143)) fun Z145 =>
  if mjRo Z145.2 a0 16 = true then
  mjBq (g195_next sg a0 60 Z145) fun v149 Z150 =>
  mjBp (qSi Z150 a0 16 1 (50 + v149)) fun Z151 =>
  if mjRo Z151.2 a0 16 = true then
  mjBq (g195_next sg a0 15 Z151) fun v155 Z156 =>
  mjBp (qSi Z156 a0 16 2 v155) fun Z157 =>
  if mjRo Z157.2 a0 16 = true then
  mjBq (g195_next sg a0 15 Z157) fun v161 Z162 =>
  mjBp (qSi Z162 a0 16 3 v161) fun Z163 =>
  if mjRo Z163.2 a0 16 = true then
  mjBq (g195_next sg a0 2 Z163) fun v167 Z168 =>
  if mjCmp .ne v167 0 = true then
    mjBp (qI Z168.2 a0 16 1) fun v170 =>
    if mjRo Z168.2 a0 16 = true then
    mjBq (g195_next sg a0 (v170 + 1) Z168) fun v174 Z175 =>
    g197_init_j135 sg a0 p0 a0 v174 Z175
    else none
  else
    g197_init_j135 sg a0 p0 a0 0 Z168
  else none
  else none
  else none
  else none
  else none
set_option maxRecDepth 100000 in
theorem g197_init_ok {sg : Nat → Nat} {a0 : Nat} {p0 : Nat} {Z : mjQ} {v9 : Unit} {Z9 : mjQ} (h : g197_init sg a0 p0 Z = some (v9, Z9)) : pE sg 59 197 0 (mjEnt [.ref a0, .ref p0] (mjML 197)) [] Z (fun r M1 => r = none ∧ M1 = Z9) := by
  unfold g197_init at h
  show pE sg 59 197 0 [some (.ref a0), some (.ref p0), none, none, none, none, none, none] [] Z _
  refine pE_many 1 (pc1 := 1) (L1 := [some (.ref a0), some (.ref p0), none, none, none, none, none, none]) (st1 := [.ref a0]) rfl ?_
  refine pE_obj (As := [.ref a0]) (rest := []) (w := 3) rfl (by first | decide | omega) ?_
  refine pE_many 2 (pc1 := 6) (L1 := [some (.ref a0), some (.ref p0), none, none, none, none, none, none]) (st1 := [.int 2, .ref a0]) rfl ?_
  cases hq102 : qSi Z a0 16 5 2 with
  | none => rw [hq102] at h; cases h
  | some Z101 =>
    rw [hq102, mjBp_some] at h
    refine pE_pI rfl rfl (by decide) (by decide) hq102 ?_
    refine pE_many 2 (pc1 := 11) (L1 := [some (.ref a0), some (.ref p0), none, none, none, none, none, none]) (st1 := [.int 5, .ref a0]) rfl ?_
    cases hq104 : qSi Z101 a0 16 6 5 with
    | none => rw [hq104] at h; cases h
    | some Z103 =>
      rw [hq104, mjBp_some] at h
      refine pE_pI rfl rfl (by decide) (by decide) hq104 ?_
      refine pE_many 1 (pc1 := 15) (L1 := [some (.ref a0), some (.ref p0), none, none, none, none, none, none]) (st1 := [.ref a0]) rfl ?_
      cases hq106 : qNew sg Z103 (20, 0) with
      | none => rw [hq106] at h; cases h
      | some w =>
        obtain ⟨v105, Z107⟩ := w
        rw [hq106, mjBq_some] at h
        refine pE_newO rfl rfl (by decide) hq106 ?_
        refine pE_many 1 (pc1 := 19) (L1 := [some (.ref a0), some (.ref p0), none, none, none, none, none, none]) (st1 := [.ref v105, .ref v105, .ref a0]) rfl ?_
        cases hq108 : g239_init sg v105 Z107 with
        | none => rw [hq108] at h; cases h
        | some w =>
          obtain ⟨v109, Z110⟩ := w
          rw [hq108, mjBq_some] at h
          refine pE_call (k2 := 239) (As := [.ref v105]) (rest := [.ref v105, .ref a0]) (w := 3) rfl (by decide) (by decide) (g239_init_ok hq108) ?_
          show pE sg 59 197 22 [some (.ref a0), some (.ref p0), none, none, none, none, none, none] [.ref v105, .ref a0] Z110 _
          cases hq112 : qSr Z110 a0 16 8 (some v105) with
          | none => rw [hq112] at h; cases h
          | some Z111 =>
            rw [hq112, mjBp_some] at h
            refine pE_pR (o := some v105) rfl rfl (by decide) (by decide) hq112 ?_
            refine pE_many 1 (pc1 := 26) (L1 := [some (.ref a0), some (.ref p0), none, none, none, none, none, none]) (st1 := [.ref a0]) rfl ?_
            cases hq114 : qNew sg Z111 (20, 0) with
            | none => rw [hq114] at h; cases h
            | some w =>
              obtain ⟨v113, Z115⟩ := w
              rw [hq114, mjBq_some] at h
              refine pE_newO rfl rfl (by decide) hq114 ?_
              refine pE_many 1 (pc1 := 30) (L1 := [some (.ref a0), some (.ref p0), none, none, none, none, none, none]) (st1 := [.ref v113, .ref v113, .ref a0]) rfl ?_
              cases hq116 : g239_init sg v113 Z115 with
              | none => rw [hq116] at h; cases h
              | some w =>
                obtain ⟨v117, Z118⟩ := w
                rw [hq116, mjBq_some] at h
                refine pE_call (k2 := 239) (As := [.ref v113]) (rest := [.ref v113, .ref a0]) (w := 3) rfl (by decide) (by decide) (g239_init_ok hq116) ?_
                show pE sg 59 197 33 [some (.ref a0), some (.ref p0), none, none, none, none, none, none] [.ref v113, .ref a0] Z118 _
                cases hq120 : qSr Z118 a0 16 9 (some v113) with
                | none => rw [hq120] at h; cases h
                | some Z119 =>
                  rw [hq120, mjBp_some] at h
                  refine pE_pR (o := some v113) rfl rfl (by decide) (by decide) hq120 ?_
                  refine pE_many 1 (pc1 := 37) (L1 := [some (.ref a0), some (.ref p0), none, none, none, none, none, none]) (st1 := [.ref a0]) rfl ?_
                  cases hq122 : qNew sg Z119 (20, 0) with
                  | none => rw [hq122] at h; cases h
                  | some w =>
                    obtain ⟨v121, Z123⟩ := w
                    rw [hq122, mjBq_some] at h
                    refine pE_newO rfl rfl (by decide) hq122 ?_
                    refine pE_many 1 (pc1 := 41) (L1 := [some (.ref a0), some (.ref p0), none, none, none, none, none, none]) (st1 := [.ref v121, .ref v121, .ref a0]) rfl ?_
                    cases hq124 : g239_init sg v121 Z123 with
                    | none => rw [hq124] at h; cases h
                    | some w =>
                      obtain ⟨v125, Z126⟩ := w
                      rw [hq124, mjBq_some] at h
                      refine pE_call (k2 := 239) (As := [.ref v121]) (rest := [.ref v121, .ref a0]) (w := 3) rfl (by decide) (by decide) (g239_init_ok hq124) ?_
                      show pE sg 59 197 44 [some (.ref a0), some (.ref p0), none, none, none, none, none, none] [.ref v121, .ref a0] Z126 _
                      cases hq128 : qSr Z126 a0 16 10 (some v121) with
                      | none => rw [hq128] at h; cases h
                      | some Z127 =>
                        rw [hq128, mjBp_some] at h
                        refine pE_pR (o := some v121) rfl rfl (by decide) (by decide) hq128 ?_
                        refine pE_many 1 (pc1 := 48) (L1 := [some (.ref a0), some (.ref p0), none, none, none, none, none, none]) (st1 := [.ref a0]) rfl ?_
                        cases hq130 : qNew sg Z127 (20, 0) with
                        | none => rw [hq130] at h; cases h
                        | some w =>
                          obtain ⟨v129, Z131⟩ := w
                          rw [hq130, mjBq_some] at h
                          refine pE_newO rfl rfl (by decide) hq130 ?_
                          refine pE_many 1 (pc1 := 52) (L1 := [some (.ref a0), some (.ref p0), none, none, none, none, none, none]) (st1 := [.ref v129, .ref v129, .ref a0]) rfl ?_
                          cases hq132 : g239_init sg v129 Z131 with
                          | none => rw [hq132] at h; cases h
                          | some w =>
                            obtain ⟨v133, Z134⟩ := w
                            rw [hq132, mjBq_some] at h
                            refine pE_call (k2 := 239) (As := [.ref v129]) (rest := [.ref v129, .ref a0]) (w := 3) rfl (by decide) (by decide) (g239_init_ok hq132) ?_
                            show pE sg 59 197 55 [some (.ref a0), some (.ref p0), none, none, none, none, none, none] [.ref v129, .ref a0] Z134 _
                            cases hq136 : qSr Z134 a0 16 11 (some v129) with
                            | none => rw [hq136] at h; cases h
                            | some Z135 =>
                              rw [hq136, mjBp_some] at h
                              refine pE_pR (o := some v129) rfl rfl (by decide) (by decide) hq136 ?_
                              refine pE_many 2 (pc1 := 60) (L1 := [some (.ref a0), some (.ref p0), none, none, none, none, none, none]) (st1 := [.int ((-1)), .ref a0]) rfl ?_
                              cases hq138 : qSi Z135 a0 16 12 ((-1)) with
                              | none => rw [hq138] at h; cases h
                              | some Z137 =>
                                rw [hq138, mjBp_some] at h
                                refine pE_pI rfl rfl (by decide) (by decide) hq138 ?_
                                refine pE_many 2 (pc1 := 65) (L1 := [some (.ref a0), some (.ref p0), none, none, none, none, none, none]) (st1 := [.ref p0, .ref a0]) rfl ?_
                                cases hq140 : qSr Z137 a0 16 14 (some p0) with
                                | none => rw [hq140] at h; cases h
                                | some Z139 =>
                                  rw [hq140, mjBp_some] at h
                                  refine pE_pR (o := some p0) rfl rfl (by decide) (by decide) hq140 ?_
                                  refine pE_many 4 (pc1 := 72) (L1 := [some (.ref a0), some (.ref p0), none, none, none, none, none, none]) (st1 := [.int 3, .ref a0, .int 2, .ref a0]) rfl ?_
                                  have hk141 : mjRo Z139.2 a0 16 = true := by
                                    by_cases q9 : mjRo Z139.2 a0 16 = true
                                    · exact q9
                                    · rw [if_neg q9] at h; cases h
                                  rw [if_pos hk141] at h
                                  cases hq142 : g195_next sg a0 3 Z139 with
                                  | none => rw [hq142] at h; cases h
                                  | some w =>
                                    obtain ⟨v143, Z144⟩ := w
                                    rw [hq142, mjBq_some] at h
                                    refine pE_callV (k2 := 195) (As := [.int 3]) (rest := [.int 2, .ref a0]) rfl rfl rfl rfl rfl rfl hk141 (by decide) (by decide) (by decide) (g195_next_ok hq142) ?_
                                    show pE sg 59 197 75 [some (.ref a0), some (.ref p0), none, none, none, none, none, none] [.int v143, .int 2, .ref a0] Z144 _
                                    refine pE_many 1 (pc1 := 76) (L1 := [some (.ref a0), some (.ref p0), none, none, none, none, none, none]) (st1 := [.int (2 + v143), .ref a0]) rfl ?_
                                    cases hq146 : qSi Z144 a0 16 0 (2 + v143) with
                                    | none => rw [hq146] at h; cases h
                                    | some Z145 =>
                                      rw [hq146, mjBp_some] at h
                                      refine pE_pI rfl rfl (by decide) (by decide) hq146 ?_
                                      refine pE_many 4 (pc1 := 85) (L1 := [some (.ref a0), some (.ref p0), none, none, none, none, none, none]) (st1 := [.int 60, .ref a0, .int 50, .ref a0]) rfl ?_
                                      have hk147 : mjRo Z145.2 a0 16 = true := by
                                        by_cases q9 : mjRo Z145.2 a0 16 = true
                                        · exact q9
                                        · rw [if_neg q9] at h; cases h
                                      rw [if_pos hk147] at h
                                      cases hq148 : g195_next sg a0 60 Z145 with
                                      | none => rw [hq148] at h; cases h
                                      | some w =>
                                        obtain ⟨v149, Z150⟩ := w
                                        rw [hq148, mjBq_some] at h
                                        refine pE_callV (k2 := 195) (As := [.int 60]) (rest := [.int 50, .ref a0]) rfl rfl rfl rfl rfl rfl hk147 (by decide) (by decide) (by decide) (g195_next_ok hq148) ?_
                                        show pE sg 59 197 88 [some (.ref a0), some (.ref p0), none, none, none, none, none, none] [.int v149, .int 50, .ref a0] Z150 _
                                        refine pE_many 1 (pc1 := 89) (L1 := [some (.ref a0), some (.ref p0), none, none, none, none, none, none]) (st1 := [.int (50 + v149), .ref a0]) rfl ?_
                                        cases hq152 : qSi Z150 a0 16 1 (50 + v149) with
                                        | none => rw [hq152] at h; cases h
                                        | some Z151 =>
                                          rw [hq152, mjBp_some] at h
                                          refine pE_pI rfl rfl (by decide) (by decide) hq152 ?_
                                          refine pE_many 3 (pc1 := 96) (L1 := [some (.ref a0), some (.ref p0), none, none, none, none, none, none]) (st1 := [.int 15, .ref a0, .ref a0]) rfl ?_
                                          have hk153 : mjRo Z151.2 a0 16 = true := by
                                            by_cases q9 : mjRo Z151.2 a0 16 = true
                                            · exact q9
                                            · rw [if_neg q9] at h; cases h
                                          rw [if_pos hk153] at h
                                          cases hq154 : g195_next sg a0 15 Z151 with
                                          | none => rw [hq154] at h; cases h
                                          | some w =>
                                            obtain ⟨v155, Z156⟩ := w
                                            rw [hq154, mjBq_some] at h
                                            refine pE_callV (k2 := 195) (As := [.int 15]) (rest := [.ref a0]) rfl rfl rfl rfl rfl rfl hk153 (by decide) (by decide) (by decide) (g195_next_ok hq154) ?_
                                            show pE sg 59 197 99 [some (.ref a0), some (.ref p0), none, none, none, none, none, none] [.int v155, .ref a0] Z156 _
                                            cases hq158 : qSi Z156 a0 16 2 v155 with
                                            | none => rw [hq158] at h; cases h
                                            | some Z157 =>
                                              rw [hq158, mjBp_some] at h
                                              refine pE_pI rfl rfl (by decide) (by decide) hq158 ?_
                                              refine pE_many 3 (pc1 := 106) (L1 := [some (.ref a0), some (.ref p0), none, none, none, none, none, none]) (st1 := [.int 15, .ref a0, .ref a0]) rfl ?_
                                              have hk159 : mjRo Z157.2 a0 16 = true := by
                                                by_cases q9 : mjRo Z157.2 a0 16 = true
                                                · exact q9
                                                · rw [if_neg q9] at h; cases h
                                              rw [if_pos hk159] at h
                                              cases hq160 : g195_next sg a0 15 Z157 with
                                              | none => rw [hq160] at h; cases h
                                              | some w =>
                                                obtain ⟨v161, Z162⟩ := w
                                                rw [hq160, mjBq_some] at h
                                                refine pE_callV (k2 := 195) (As := [.int 15]) (rest := [.ref a0]) rfl rfl rfl rfl rfl rfl hk159 (by decide) (by decide) (by decide) (g195_next_ok hq160) ?_
                                                show pE sg 59 197 109 [some (.ref a0), some (.ref p0), none, none, none, none, none, none] [.int v161, .ref a0] Z162 _
                                                cases hq164 : qSi Z162 a0 16 3 v161 with
                                                | none => rw [hq164] at h; cases h
                                                | some Z163 =>
                                                  rw [hq164, mjBp_some] at h
                                                  refine pE_pI rfl rfl (by decide) (by decide) hq164 ?_
                                                  refine pE_many 3 (pc1 := 115) (L1 := [some (.ref a0), some (.ref p0), none, none, none, none, none, none]) (st1 := [.int 2, .ref a0, .ref a0]) rfl ?_
                                                  have hk165 : mjRo Z163.2 a0 16 = true := by
                                                    by_cases q9 : mjRo Z163.2 a0 16 = true
                                                    · exact q9
                                                    · rw [if_neg q9] at h; cases h
                                                  rw [if_pos hk165] at h
                                                  cases hq166 : g195_next sg a0 2 Z163 with
                                                  | none => rw [hq166] at h; cases h
                                                  | some w =>
                                                    obtain ⟨v167, Z168⟩ := w
                                                    rw [hq166, mjBq_some] at h
                                                    refine pE_callV (k2 := 195) (As := [.int 2]) (rest := [.ref a0]) rfl rfl rfl rfl rfl rfl hk165 (by decide) (by decide) (by decide) (g195_next_ok hq166) ?_
                                                    show pE sg 59 197 118 [some (.ref a0), some (.ref p0), none, none, none, none, none, none] [.int v167, .ref a0] Z168 _
                                                    by_cases hc169 : mjCmp .ne v167 0 = true
                                                    · rw [if_pos hc169] at h
                                                      refine pE_ift (t := 125) rfl rfl hc169 ?_
                                                      refine pE_many 2 (pc1 := 127) (L1 := [some (.ref a0), some (.ref p0), none, none, none, none, none, none]) (st1 := [.ref a0, .ref a0, .ref a0]) rfl ?_
                                                      cases hq171 : qI Z168.2 a0 16 1 with
                                                      | none => rw [hq171] at h; cases h
                                                      | some v170 =>
                                                        rw [hq171, mjBp_some] at h
                                                        refine pE_gI rfl rfl hq171 ?_
                                                        refine pE_many 2 (pc1 := 132) (L1 := [some (.ref a0), some (.ref p0), none, none, none, none, none, none]) (st1 := [.int (v170 + 1), .ref a0, .ref a0]) rfl ?_
                                                        have hk172 : mjRo Z168.2 a0 16 = true := by
                                                          by_cases q9 : mjRo Z168.2 a0 16 = true
                                                          · exact q9
                                                          · rw [if_neg q9] at h; cases h
                                                        rw [if_pos hk172] at h
                                                        cases hq173 : g195_next sg a0 (v170 + 1) Z168 with
                                                        | none => rw [hq173] at h; cases h
                                                        | some w =>
                                                          obtain ⟨v174, Z175⟩ := w
                                                          rw [hq173, mjBq_some] at h
                                                          refine pE_callV (k2 := 195) (As := [.int (v170 + 1)]) (rest := [.ref a0]) rfl rfl rfl rfl rfl rfl hk172 (by decide) (by decide) (by decide) (g195_next_ok hq173) ?_
                                                          show pE sg 59 197 135 [some (.ref a0), some (.ref p0), none, none, none, none, none, none] [.int v174, .ref a0] Z175 _
                                                          exact g197_init_j135_ok a0 p0 a0 v174 none none none none none none Z175 v9 Z9 h
                                                    · rw [if_neg hc169] at h
                                                      refine pE_iff (t := 125) rfl rfl hc169 ?_
                                                      refine pE_many 2 (pc1 := 135) (L1 := [some (.ref a0), some (.ref p0), none, none, none, none, none, none]) (st1 := [.int 0, .ref a0]) rfl ?_
                                                      exact g197_init_j135_ok a0 p0 a0 0 none none none none none none Z168 v9 Z9 h
