def f103_leadChanges_j61 (R : Nat → Int32 → Int32 → Int32 → Int32 → Int32 → Int32 → mjZt → Option Int32) (x1 : Nat) (x2 : Int32) (x3 : Int32) (x4 : Int32) (x5 : Int32) (x6 : Int32) (x7 : Int32) (s0 : Int32) (Z : mjZt) : Option Int32 :=
  if mjCmp .eq x6 ((-1)) = true then
    R x1 x2 x3 x4 x5 s0 (x7 + 1) Z
  else
    if mjCmp .eq x6 s0 = true then
      R x1 x2 x3 x4 x5 s0 (x7 + 1) Z
    else
      R x1 x2 x3 x4 (x5 + 1) s0 (x7 + 1) Z
theorem f103_leadChanges_j61_ok (R : Nat → Int32 → Int32 → Int32 → Int32 → Int32 → Int32 → mjZt → Option Int32) (hR : ∀ (x1 : Nat) (x2 : Int32) (x3 : Int32) (x4 : Int32) (x5 : Int32) (x6 : Int32) (x7 : Int32) (d0 d8 d9 : Option Value) (Z : mjZt) (v9 : Int32), R x1 x2 x3 x4 x5 x6 x7 Z = some v9 → pG 103 16 [d0, some (.ref x1), some (.int x2), some (.int x3), some (.int x4), some (.int x5), some (.int x6), some (.int x7), d8, d9] [] (mjTo Z) (fun r M1 => r = some (.int v9) ∧ M1 = mjTo Z)) (x1 : Nat) (x2 : Int32) (x3 : Int32) (x4 : Int32) (x5 : Int32) (x6 : Int32) (x7 : Int32) (s0 : Int32) (d0 d8 d9 : Option Value) (Z : mjZt) (v9 : Int32) (h : f103_leadChanges_j61 R x1 x2 x3 x4 x5 x6 x7 s0 Z = some v9) : pG 103 61 [d0, some (.ref x1), some (.int x2), some (.int x3), some (.int x4), some (.int x5), some (.int x6), some (.int x7), d8, d9] [.int s0] (mjTo Z) (fun r M1 => r = some (.int v9) ∧ M1 = mjTo Z) := by
  unfold f103_leadChanges_j61 at h
  refine pG_many 3 (pc1 := 66) (L1 := [d0, some (.ref x1), some (.int x2), some (.int x3), some (.int x4), some (.int x5), some (.int x6), some (.int x7), (mjK1 d8), some (.int s0)]) (st1 := [.int ((-1)), .int x6]) (M1 := mjTo Z) rfl ?_
  by_cases hc122 : mjCmp .eq x6 ((-1)) = true
  · rw [if_pos hc122] at h
    refine pG_cmt (t := 79) rfl rfl hc122 ?_
    refine pG_many 4 (pc1 := 16) (L1 := [d0, some (.ref x1), some (.int x2), some (.int x3), some (.int x4), some (.int x5), some (.int s0), some (.int (x7 + 1)), (mjK1 d8), some (.int s0)]) (st1 := []) (M1 := mjTo Z) rfl ?_
    exact hR x1 x2 x3 x4 x5 s0 (x7 + 1) d0 ((mjK1 d8)) (some (.int s0)) Z v9 h
  · rw [if_neg hc122] at h
    refine pG_cmf (t := 79) rfl rfl hc122 ?_
    refine pG_many 2 (pc1 := 73) (L1 := [d0, some (.ref x1), some (.int x2), some (.int x3), some (.int x4), some (.int x5), some (.int x6), some (.int x7), (mjK1 d8), some (.int s0)]) (st1 := [.int s0, .int x6]) (M1 := mjTo Z) rfl ?_
    by_cases hc123 : mjCmp .eq x6 s0 = true
    · rw [if_pos hc123] at h
      refine pG_cmt (t := 79) rfl rfl hc123 ?_
      refine pG_many 4 (pc1 := 16) (L1 := [d0, some (.ref x1), some (.int x2), some (.int x3), some (.int x4), some (.int x5), some (.int s0), some (.int (x7 + 1)), (mjK1 d8), some (.int s0)]) (st1 := []) (M1 := mjTo Z) rfl ?_
      exact hR x1 x2 x3 x4 x5 s0 (x7 + 1) d0 ((mjK1 d8)) (some (.int s0)) Z v9 h
    · rw [if_neg hc123] at h
      refine pG_cmf (t := 79) rfl rfl hc123 ?_
      refine pG_many 5 (pc1 := 16) (L1 := [d0, some (.ref x1), some (.int x2), some (.int x3), some (.int x4), some (.int (x5 + 1)), some (.int s0), some (.int (x7 + 1)), (mjK1 d8), some (.int s0)]) (st1 := []) (M1 := mjTo Z) rfl ?_
      exact hR x1 x2 x3 x4 (x5 + 1) s0 (x7 + 1) d0 ((mjK1 d8)) (some (.int s0)) Z v9 h
def f103_leadChanges_h16 : Nat → Nat → Int32 → Int32 → Int32 → Int32 → Int32 → Int32 → mjZt → Option Int32
  | 0, _, _, _, _, _, _, _, _ => none
  | n + 1, x1, x2, x3, x4, x5, x6, x7, Z =>
    if mjCmp .gt x7 x4 = true then
      some x5
    else
      if mjIs x1 251 2 = true then
      mjBp (f8_runner x1 x2 Z) fun v107 =>
      if mjIs v107 251 7 = true then
      mjBp (f73_whereAt v107 x7 Z) fun v111 =>
      mjBp (f8_runner x1 x3 Z) fun v114 =>
      if mjIs v114 251 7 = true then
      mjBp (f73_whereAt v114 x7 Z) fun v118 =>
      if mjCmp .eq (v111 - v118) 0 = true then
        f103_leadChanges_h16 n x1 x2 x3 x4 x5 x6 (x7 + 1) Z
      else
        if mjCmp .le (v111 - v118) 0 = true then
          f103_leadChanges_j61 (f103_leadChanges_h16 n) x1 x2 x3 x4 x5 x6 x7 x3 Z
        else
          f103_leadChanges_j61 (f103_leadChanges_h16 n) x1 x2 x3 x4 x5 x6 x7 x2 Z
      else none
      else none
      else none
theorem f103_leadChanges_h16_ok : ∀ (n : Nat) (x1 : Nat) (x2 : Int32) (x3 : Int32) (x4 : Int32) (x5 : Int32) (x6 : Int32) (x7 : Int32) (d0 d8 d9 : Option Value) (Z : mjZt) (v9 : Int32), f103_leadChanges_h16 n x1 x2 x3 x4 x5 x6 x7 Z = some v9 → pG 103 16 [d0, some (.ref x1), some (.int x2), some (.int x3), some (.int x4), some (.int x5), some (.int x6), some (.int x7), d8, d9] [] (mjTo Z) (fun r M1 => r = some (.int v9) ∧ M1 = mjTo Z)
  | 0, x1, x2, x3, x4, x5, x6, x7, d0, d8, d9, Z, v9, h => by rw [f103_leadChanges_h16] at h; cases h
  | n + 1, x1, x2, x3, x4, x5, x6, x7, d0, d8, d9, Z, v9, h => by
      rw [f103_leadChanges_h16] at h
      refine pG_many 2 (pc1 := 20) (L1 := [d0, some (.ref x1), some (.int x2), some (.int x3), some (.int x4), some (.int x5), some (.int x6), some (.int x7), d8, d9]) (st1 := [.int x4, .int x7]) (M1 := mjTo Z) rfl ?_
      by_cases hc104 : mjCmp .gt x7 x4 = true
      · rw [if_pos hc104] at h
        refine pG_cmt (t := 89) rfl rfl hc104 ?_
        refine pG_many 1 (pc1 := 91) (L1 := [d0, some (.ref x1), some (.int x2), some (.int x3), some (.int x4), some (.int x5), some (.int x6), some (.int x7), d8, d9]) (st1 := [.int x5]) (M1 := mjTo Z) rfl ?_
        simp only [Option.some.injEq] at h
        subst h
        exact pG_ret (r := some (.int x5)) rfl ⟨rfl, rfl⟩
      · rw [if_neg hc104] at h
        refine pG_cmf (t := 89) rfl rfl hc104 ?_
        refine pG_many 2 (pc1 := 25) (L1 := [d0, some (.ref x1), some (.int x2), some (.int x3), some (.int x4), some (.int x5), some (.int x6), some (.int x7), d8, d9]) (st1 := [.int x2, .ref x1]) (M1 := mjTo Z) rfl ?_
        have hk105 : mjIs x1 251 2 = true := by
          by_cases q9 : mjIs x1 251 2 = true
          · exact q9
          · rw [if_neg q9] at h; cases h
        rw [if_pos hk105] at h
        cases hq106 : f8_runner x1 x2 Z with
        | none => rw [hq106] at h; cases h
        | some v107 =>
          rw [hq106, mjBp_some] at h
          refine pG_callV (k2 := 8) (As := [.ref x1, .int x2]) (rest := []) rfl rfl rfl rfl rfl (mjRcv_is hk105 (by decide)) (by decide) (f8_runner_ok hq106) ?_
          rintro r9 M9 ⟨rfl, rfl⟩
          show pG 103 28 [d0, some (.ref x1), some (.int x2), some (.int x3), some (.int x4), some (.int x5), some (.int x6), some (.int x7), d8, d9] [.ref v107] (mjTo Z) _
          refine pG_many 1 (pc1 := 30) (L1 := [d0, some (.ref x1), some (.int x2), some (.int x3), some (.int x4), some (.int x5), some (.int x6), some (.int x7), d8, d9]) (st1 := [.int x7, .ref v107]) (M1 := mjTo Z) rfl ?_
          have hk109 : mjIs v107 251 7 = true := by
            by_cases q9 : mjIs v107 251 7 = true
            · exact q9
            · rw [if_neg q9] at h; cases h
          rw [if_pos hk109] at h
          cases hq110 : f73_whereAt v107 x7 Z with
          | none => rw [hq110] at h; cases h
          | some v111 =>
            rw [hq110, mjBp_some] at h
            refine pG_callV (k2 := 73) (As := [.ref v107, .int x7]) (rest := []) rfl rfl rfl rfl rfl (mjRcv_is hk109 (by decide)) (by decide) (f73_whereAt_ok hq110) ?_
            rintro r9 M9 ⟨rfl, rfl⟩
            show pG 103 33 [d0, some (.ref x1), some (.int x2), some (.int x3), some (.int x4), some (.int x5), some (.int x6), some (.int x7), d8, d9] [.int v111] (mjTo Z) _
            refine pG_many 2 (pc1 := 35) (L1 := [d0, some (.ref x1), some (.int x2), some (.int x3), some (.int x4), some (.int x5), some (.int x6), some (.int x7), d8, d9]) (st1 := [.int x3, .ref x1, .int v111]) (M1 := mjTo Z) rfl ?_
            cases hq113 : f8_runner x1 x3 Z with
            | none => rw [hq113] at h; cases h
            | some v114 =>
              rw [hq113, mjBp_some] at h
              refine pG_callV (k2 := 8) (As := [.ref x1, .int x3]) (rest := [.int v111]) rfl rfl rfl rfl rfl (mjRcv_is hk105 (by decide)) (by decide) (f8_runner_ok hq113) ?_
              rintro r9 M9 ⟨rfl, rfl⟩
              show pG 103 38 [d0, some (.ref x1), some (.int x2), some (.int x3), some (.int x4), some (.int x5), some (.int x6), some (.int x7), d8, d9] [.ref v114, .int v111] (mjTo Z) _
              refine pG_many 1 (pc1 := 40) (L1 := [d0, some (.ref x1), some (.int x2), some (.int x3), some (.int x4), some (.int x5), some (.int x6), some (.int x7), d8, d9]) (st1 := [.int x7, .ref v114, .int v111]) (M1 := mjTo Z) rfl ?_
              have hk116 : mjIs v114 251 7 = true := by
                by_cases q9 : mjIs v114 251 7 = true
                · exact q9
                · rw [if_neg q9] at h; cases h
              rw [if_pos hk116] at h
              cases hq117 : f73_whereAt v114 x7 Z with
              | none => rw [hq117] at h; cases h
              | some v118 =>
                rw [hq117, mjBp_some] at h
                refine pG_callV (k2 := 73) (As := [.ref v114, .int x7]) (rest := [.int v111]) rfl rfl rfl rfl rfl (mjRcv_is hk116 (by decide)) (by decide) (f73_whereAt_ok hq117) ?_
                rintro r9 M9 ⟨rfl, rfl⟩
                show pG 103 43 [d0, some (.ref x1), some (.int x2), some (.int x3), some (.int x4), some (.int x5), some (.int x6), some (.int x7), d8, d9] [.int v118, .int v111] (mjTo Z) _
                refine pG_many 3 (pc1 := 48) (L1 := [d0, some (.ref x1), some (.int x2), some (.int x3), some (.int x4), some (.int x5), some (.int x6), some (.int x7), some (.int (v111 - v118)), d9]) (st1 := [.int (v111 - v118)]) (M1 := mjTo Z) rfl ?_
                by_cases hc120 : mjCmp .eq (v111 - v118) 0 = true
                · rw [if_pos hc120] at h
                  refine pG_ift (t := 83) rfl rfl hc120 ?_
                  refine pG_many 2 (pc1 := 16) (L1 := [d0, some (.ref x1), some (.int x2), some (.int x3), some (.int x4), some (.int x5), some (.int x6), some (.int (x7 + 1)), some (.int (v111 - v118)), d9]) (st1 := []) (M1 := mjTo Z) rfl ?_
                  exact f103_leadChanges_h16_ok n x1 x2 x3 x4 x5 x6 (x7 + 1) d0 (some (.int (v111 - v118))) d9 Z v9 h
                · rw [if_neg hc120] at h
                  refine pG_iff (t := 83) rfl rfl hc120 ?_
                  refine pG_many 1 (pc1 := 53) (L1 := [d0, some (.ref x1), some (.int x2), some (.int x3), some (.int x4), some (.int x5), some (.int x6), some (.int x7), some (.int (v111 - v118)), d9]) (st1 := [.int (v111 - v118)]) (M1 := mjTo Z) rfl ?_
                  by_cases hc121 : mjCmp .le (v111 - v118) 0 = true
                  · rw [if_pos hc121] at h
                    refine pG_ift (t := 60) rfl rfl hc121 ?_
                    refine pG_many 1 (pc1 := 61) (L1 := [d0, some (.ref x1), some (.int x2), some (.int x3), some (.int x4), some (.int x5), some (.int x6), some (.int x7), some (.int (v111 - v118)), d9]) (st1 := [.int x3]) (M1 := mjTo Z) rfl ?_
                    exact f103_leadChanges_j61_ok (f103_leadChanges_h16 n) (fun x1 x2 x3 x4 x5 x6 x7 d0 d8 d9 Z v9 h => f103_leadChanges_h16_ok n x1 x2 x3 x4 x5 x6 x7 d0 d8 d9 Z v9 h) x1 x2 x3 x4 x5 x6 x7 x3 d0 (some (.int (v111 - v118))) d9 Z v9 h
                  · rw [if_neg hc121] at h
                    refine pG_iff (t := 60) rfl rfl hc121 ?_
                    refine pG_many 2 (pc1 := 61) (L1 := [d0, some (.ref x1), some (.int x2), some (.int x3), some (.int x4), some (.int x5), some (.int x6), some (.int x7), some (.int (v111 - v118)), d9]) (st1 := [.int x2]) (M1 := mjTo Z) rfl ?_
                    exact f103_leadChanges_j61_ok (f103_leadChanges_h16 n) (fun x1 x2 x3 x4 x5 x6 x7 d0 d8 d9 Z v9 h => f103_leadChanges_h16_ok n x1 x2 x3 x4 x5 x6 x7 d0 d8 d9 Z v9 h) x1 x2 x3 x4 x5 x6 x7 x2 d0 (some (.int (v111 - v118))) d9 Z v9 h
def f103_leadChanges (p0 : Nat) (p1 : Int32) (p2 : Int32) (Z : mjZt) : Option Int32 :=
  mjBp (f100_lastTenth p0 Z) fun v102 =>
  f103_leadChanges_h16 mjF p0 p1 p2 v102 0 ((-1)) 0 Z
theorem f103_leadChanges_ok {p0 : Nat} {p1 : Int32} {p2 : Int32} {Z : mjZt} {v9 : Int32} (h : f103_leadChanges p0 p1 p2 Z = some v9) : pG 103 0 (mjEnt [.ref 188, .ref p0, .int p1, .int p2] (mjML 103)) [] (mjTo Z) (fun r M1 => r = some (.int v9) ∧ M1 = mjTo Z) := by
  unfold f103_leadChanges at h
  show pG 103 0 [some (.ref 188), some (.ref p0), some (.int p1), some (.int p2), none, none, none, none, none, none] [] (mjTo Z) _
  refine pG_many 2 (pc1 := 2) (L1 := [some (.ref 188), some (.ref p0), some (.int p1), some (.int p2), none, none, none, none, none, none]) (st1 := [.ref p0, .ref 188]) (M1 := mjTo Z) rfl ?_
  cases hq101 : f100_lastTenth p0 Z with
  | none => rw [hq101] at h; cases h
  | some v102 =>
    rw [hq101, mjBp_some] at h
    refine pG_callV (k2 := 100) (As := [.ref 188, .ref p0]) (rest := []) rfl rfl rfl rfl rfl (by rfl) (by decide) (f100_lastTenth_ok hq101) ?_
    rintro r9 M9 ⟨rfl, rfl⟩
    show pG 103 5 [some (.ref 188), some (.ref p0), some (.int p1), some (.int p2), none, none, none, none, none, none] [.int v102] (mjTo Z) _
    refine pG_many 7 (pc1 := 16) (L1 := [some (.ref 188), some (.ref p0), some (.int p1), some (.int p2), some (.int v102), some (.int 0), some (.int ((-1))), some (.int 0), none, none]) (st1 := []) (M1 := mjTo Z) rfl ?_
    exact f103_leadChanges_h16_ok mjF p0 p1 p2 v102 0 ((-1)) 0 (some (.ref 188)) none none Z v9 h
def f104_arrival_h8 : Nat → Nat → Int32 → Int32 → mjZt → Option Int32
  | 0, _, _, _, _ => none
  | n + 1, x0, x1, x2, Z =>
    if mjIs x0 251 7 = true then
    if mjCmp .gt x2 (Z.1 x0 6) = true then
      some ((-2))
    else
      mjBp (f5_at (x0 + 4) (x2 - 1) Z) fun v105 =>
      mjBp (f5_at (x0 + 4) x2 Z) fun v108 =>
      if mjCmp .le (v108 - v105) 0 = true then
        f104_arrival_h8 n x0 x1 (x2 + 1) Z
      else
        if mjCmp .gt x1 v108 = true then
          f104_arrival_h8 n x0 x1 (x2 + 1) Z
        else
          mjBp (f5_at (x0 + 3) (x2 - 1) Z) fun v116 =>
          mjBp (f5_at (x0 + 1) x2 Z) fun v119 =>
          if ¬ v108 - v105 = 0 then
          some (v116 + (((((x1 - v105) * v119) + (v108 - v105)) - 1) / (v108 - v105)))
          else none
    else none
theorem f104_arrival_h8_ok : ∀ (n : Nat) (x0 : Nat) (x1 : Int32) (x2 : Int32) (d3 d4 : Option Value) (Z : mjZt) (v9 : Int32), f104_arrival_h8 n x0 x1 x2 Z = some v9 → pG 104 8 [some (.ref x0), some (.int x1), some (.int x2), d3, d4] [] (mjTo Z) (fun r M1 => r = some (.int v9) ∧ M1 = mjTo Z)
  | 0, x0, x1, x2, d3, d4, Z, v9, h => by rw [f104_arrival_h8] at h; cases h
  | n + 1, x0, x1, x2, d3, d4, Z, v9, h => by
      rw [f104_arrival_h8] at h
      refine pG_many 2 (pc1 := 10) (L1 := [some (.ref x0), some (.int x1), some (.int x2), d3, d4]) (st1 := [.ref x0, .int x2]) (M1 := mjTo Z) rfl ?_
      have hk102 : mjIs x0 251 7 = true := by
        by_cases q9 : mjIs x0 251 7 = true
        · exact q9
        · rw [if_neg q9] at h; cases h
      rw [if_pos hk102] at h
      refine pG_getI (ci := 7) (f := 6) rfl rfl (Or.inl rfl) hk102 ?_
      by_cases hc103 : mjCmp .gt x2 (Z.1 x0 6) = true
      · rw [if_pos hc103] at h
        refine pG_cmt (t := 94) rfl rfl hc103 ?_
        refine pG_many 1 (pc1 := 96) (L1 := [some (.ref x0), some (.int x1), some (.int x2), d3, d4]) (st1 := [.int ((-2))]) (M1 := mjTo Z) rfl ?_
        simp only [Option.some.injEq] at h
        subst h
        exact pG_ret (r := some (.int ((-2)))) rfl ⟨rfl, rfl⟩
      · rw [if_neg hc103] at h
        refine pG_cmf (t := 94) rfl rfl hc103 ?_
        refine pG_many 1 (pc1 := 17) (L1 := [some (.ref x0), some (.int x1), some (.int x2), d3, d4]) (st1 := [.ref x0]) (M1 := mjTo Z) rfl ?_
        refine pG_getR (ci := 7) (f := 3) (b := x0 + 4) rfl rfl rfl hk102 (mjRc7_3 hk102) ?_
        refine pG_many 3 (pc1 := 23) (L1 := [some (.ref x0), some (.int x1), some (.int x2), d3, d4]) (st1 := [.int (x2 - 1), .ref (x0 + 4)]) (M1 := mjTo Z) rfl ?_
        cases hq104 : f5_at (x0 + 4) (x2 - 1) Z with
        | none => rw [hq104] at h; cases h
        | some v105 =>
          rw [hq104, mjBp_some] at h
          refine pG_call (k2 := 5) (As := [.ref (x0 + 4), .int (x2 - 1)]) (rest := []) rfl (by decide) (f5_at_ok hq104) ?_
          rintro r9 M9 ⟨rfl, rfl⟩
          show pG 104 26 [some (.ref x0), some (.int x1), some (.int x2), d3, d4] [.int v105] (mjTo Z) _
          refine pG_many 2 (pc1 := 28) (L1 := [some (.ref x0), some (.int x1), some (.int x2), some (.int v105), d4]) (st1 := [.ref x0]) (M1 := mjTo Z) rfl ?_
          refine pG_getR (ci := 7) (f := 3) (b := x0 + 4) rfl rfl rfl hk102 (mjRc7_3 hk102) ?_
          refine pG_many 1 (pc1 := 32) (L1 := [some (.ref x0), some (.int x1), some (.int x2), some (.int v105), d4]) (st1 := [.int x2, .ref (x0 + 4)]) (M1 := mjTo Z) rfl ?_
          cases hq107 : f5_at (x0 + 4) x2 Z with
          | none => rw [hq107] at h; cases h
          | some v108 =>
            rw [hq107, mjBp_some] at h
            refine pG_call (k2 := 5) (As := [.ref (x0 + 4), .int x2]) (rest := []) rfl (by decide) (f5_at_ok hq107) ?_
            rintro r9 M9 ⟨rfl, rfl⟩
            show pG 104 35 [some (.ref x0), some (.int x1), some (.int x2), some (.int v105), d4] [.int v108] (mjTo Z) _
            refine pG_many 4 (pc1 := 41) (L1 := [some (.ref x0), some (.int x1), some (.int x2), some (.int v105), some (.int (v108 - v105))]) (st1 := [.int (v108 - v105)]) (M1 := mjTo Z) rfl ?_
            by_cases hc110 : mjCmp .le (v108 - v105) 0 = true
            · rw [if_pos hc110] at h
              refine pG_ift (t := 88) rfl rfl hc110 ?_
              refine pG_many 2 (pc1 := 8) (L1 := [some (.ref x0), some (.int x1), some (.int (x2 + 1)), some (.int v105), some (.int (v108 - v105))]) (st1 := []) (M1 := mjTo Z) rfl ?_
              exact f104_arrival_h8_ok n x0 x1 (x2 + 1) (some (.int v105)) (some (.int (v108 - v105))) Z v9 h
            · rw [if_neg hc110] at h
              refine pG_iff (t := 88) rfl rfl hc110 ?_
              refine pG_many 2 (pc1 := 46) (L1 := [some (.ref x0), some (.int x1), some (.int x2), some (.int v105), some (.int (v108 - v105))]) (st1 := [.ref x0, .int x1]) (M1 := mjTo Z) rfl ?_
              refine pG_getR (ci := 7) (f := 3) (b := x0 + 4) rfl rfl rfl hk102 (mjRc7_3 hk102) ?_
              refine pG_many 1 (pc1 := 50) (L1 := [some (.ref x0), some (.int x1), some (.int x2), some (.int v105), some (.int (v108 - v105))]) (st1 := [.int x2, .ref (x0 + 4), .int x1]) (M1 := mjTo Z) rfl ?_
              refine pG_call (k2 := 5) (As := [.ref (x0 + 4), .int x2]) (rest := [.int x1]) rfl (by decide) (f5_at_ok hq107) ?_
              rintro r9 M9 ⟨rfl, rfl⟩
              show pG 104 53 [some (.ref x0), some (.int x1), some (.int x2), some (.int v105), some (.int (v108 - v105))] [.int v108, .int x1] (mjTo Z) _
              by_cases hc114 : mjCmp .gt x1 v108 = true
              · rw [if_pos hc114] at h
                refine pG_cmt (t := 88) rfl rfl hc114 ?_
                refine pG_many 2 (pc1 := 8) (L1 := [some (.ref x0), some (.int x1), some (.int (x2 + 1)), some (.int v105), some (.int (v108 - v105))]) (st1 := []) (M1 := mjTo Z) rfl ?_
                exact f104_arrival_h8_ok n x0 x1 (x2 + 1) (some (.int v105)) (some (.int (v108 - v105))) Z v9 h
              · rw [if_neg hc114] at h
                refine pG_cmf (t := 88) rfl rfl hc114 ?_
                refine pG_many 1 (pc1 := 57) (L1 := [some (.ref x0), some (.int x1), some (.int x2), some (.int v105), some (.int (v108 - v105))]) (st1 := [.ref x0]) (M1 := mjTo Z) rfl ?_
                refine pG_getR (ci := 7) (f := 2) (b := x0 + 3) rfl rfl rfl hk102 (mjRc7_2 hk102) ?_
                refine pG_many 3 (pc1 := 63) (L1 := [some (.ref x0), some (.int x1), some (.int x2), some (.int v105), some (.int (v108 - v105))]) (st1 := [.int (x2 - 1), .ref (x0 + 3)]) (M1 := mjTo Z) rfl ?_
                cases hq115 : f5_at (x0 + 3) (x2 - 1) Z with
                | none => rw [hq115] at h; cases h
                | some v116 =>
                  rw [hq115, mjBp_some] at h
                  refine pG_call (k2 := 5) (As := [.ref (x0 + 3), .int (x2 - 1)]) (rest := []) rfl (by decide) (f5_at_ok hq115) ?_
                  rintro r9 M9 ⟨rfl, rfl⟩
                  show pG 104 66 [some (.ref x0), some (.int x1), some (.int x2), some (.int v105), some (.int (v108 - v105))] [.int v116] (mjTo Z) _
                  refine pG_many 4 (pc1 := 70) (L1 := [some (.ref x0), some (.int x1), some (.int x2), some (.int v105), some (.int (v108 - v105))]) (st1 := [.ref x0, .int (x1 - v105), .int v116]) (M1 := mjTo Z) rfl ?_
                  refine pG_getR (ci := 7) (f := 0) (b := x0 + 1) rfl rfl rfl hk102 (mjRc7_0 hk102) ?_
                  refine pG_many 1 (pc1 := 74) (L1 := [some (.ref x0), some (.int x1), some (.int x2), some (.int v105), some (.int (v108 - v105))]) (st1 := [.int x2, .ref (x0 + 1), .int (x1 - v105), .int v116]) (M1 := mjTo Z) rfl ?_
                  cases hq118 : f5_at (x0 + 1) x2 Z with
                  | none => rw [hq118] at h; cases h
                  | some v119 =>
                    rw [hq118, mjBp_some] at h
                    refine pG_call (k2 := 5) (As := [.ref (x0 + 1), .int x2]) (rest := [.int (x1 - v105), .int v116]) rfl (by decide) (f5_at_ok hq118) ?_
                    rintro r9 M9 ⟨rfl, rfl⟩
                    show pG 104 77 [some (.ref x0), some (.int x1), some (.int x2), some (.int v105), some (.int (v108 - v105))] [.int v119, .int (x1 - v105), .int v116] (mjTo Z) _
                    refine pG_many 6 (pc1 := 85) (L1 := [some (.ref x0), some (.int x1), some (.int x2), some (.int v105), some (.int (v108 - v105))]) (st1 := [.int (v108 - v105), .int ((((x1 - v105) * v119) + (v108 - v105)) - 1), .int v116]) (M1 := mjTo Z) rfl ?_
                    have hk121 : ¬ v108 - v105 = 0 := by
                      by_cases q9 : ¬ v108 - v105 = 0
                      · exact q9
                      · rw [if_neg q9] at h; cases h
                    rw [if_pos hk121] at h
                    refine pG_div rfl hk121 ?_
                    refine pG_many 1 (pc1 := 87) (L1 := [some (.ref x0), some (.int x1), some (.int x2), some (.int v105), some (.int (v108 - v105))]) (st1 := [.int (v116 + (((((x1 - v105) * v119) + (v108 - v105)) - 1) / (v108 - v105)))]) (M1 := mjTo Z) rfl ?_
                    simp only [Option.some.injEq] at h
                    subst h
                    exact pG_ret (r := some (.int (v116 + (((((x1 - v105) * v119) + (v108 - v105)) - 1) / (v108 - v105))))) rfl ⟨rfl, rfl⟩
def f104_arrival (a0 : Nat) (p0 : Int32) (Z : mjZt) : Option Int32 :=
  if mjCmp .gt p0 0 = true then
    f104_arrival_h8 mjF a0 p0 1 Z
  else
    some 0
theorem f104_arrival_ok {a0 : Nat} {p0 : Int32} {Z : mjZt} {v9 : Int32} (h : f104_arrival a0 p0 Z = some v9) : pG 104 0 (mjEnt [.ref a0, .int p0] (mjML 104)) [] (mjTo Z) (fun r M1 => r = some (.int v9) ∧ M1 = mjTo Z) := by
  unfold f104_arrival at h
  show pG 104 0 [some (.ref a0), some (.int p0), none, none, none] [] (mjTo Z) _
  refine pG_many 1 (pc1 := 1) (L1 := [some (.ref a0), some (.int p0), none, none, none]) (st1 := [.int p0]) (M1 := mjTo Z) rfl ?_
  by_cases hc101 : mjCmp .gt p0 0 = true
  · rw [if_pos hc101] at h
    refine pG_ift (t := 6) rfl rfl hc101 ?_
    refine pG_many 2 (pc1 := 8) (L1 := [some (.ref a0), some (.int p0), some (.int 1), none, none]) (st1 := []) (M1 := mjTo Z) rfl ?_
    exact f104_arrival_h8_ok mjF a0 p0 1 none none Z v9 h
  · rw [if_neg hc101] at h
    refine pG_iff (t := 6) rfl rfl hc101 ?_
    refine pG_many 1 (pc1 := 5) (L1 := [some (.ref a0), some (.int p0), none, none, none]) (st1 := [.int 0]) (M1 := mjTo Z) rfl ?_
    simp only [Option.some.injEq] at h
    subst h
    exact pG_ret (r := some (.int 0)) rfl ⟨rfl, rfl⟩
def f105_kthToCut_h2 : Nat → Nat → Int32 → Int32 → mjZt → Option (Int32 × mjZt)
  | 0, _, _, _, _ => none
  | n + 1, x1, x2, x3, Z =>
    if mjCmp .ge x3 6 = true then
      if mjIs x1 251 2 = true then
      mjBp (f44_kth x1 189 x2 Z) fun v104 =>
      some (v104, Z)
      else none
    else
      if mjIs x1 251 2 = true then
      mjBp (f8_runner x1 x3 Z) fun v108 =>
      if mjIs v108 251 7 = true then
      mjBp (f104_arrival v108 (((Z.1 x1 1) + (Z.1 x1 4)) * 10) Z) fun v112 =>
      if mjCmp .ne v112 ((-2)) = true then
        if mjIn x3 6 = true then
        mjLet (zSi Z 189 (mjIx x3) v112) fun Z116 =>
        f105_kthToCut_h2 n x1 x2 (x3 + 1) Z116
        else none
      else
        if mjIn x3 6 = true then
        mjLet (zSi Z 189 (mjIx x3) 2147483647) fun Z118 =>
        f105_kthToCut_h2 n x1 x2 (x3 + 1) Z118
        else none
      else none
      else none
theorem f105_kthToCut_h2_ok : ∀ (n : Nat) (x1 : Nat) (x2 : Int32) (x3 : Int32) (d4 : Option Value) (Z : mjZt) (v9 : Int32) (Z9 : mjZt), f105_kthToCut_h2 n x1 x2 x3 Z = some (v9, Z9) → pG 105 2 [some (.ref 188), some (.ref x1), some (.int x2), some (.int x3), d4] [] (mjTo Z) (fun r M1 => r = some (.int v9) ∧ M1 = mjTo Z9)
  | 0, x1, x2, x3, d4, Z, v9, Z9, h => by rw [f105_kthToCut_h2] at h; cases h
  | n + 1, x1, x2, x3, d4, Z, v9, Z9, h => by
      rw [f105_kthToCut_h2] at h
      refine pG_many 2 (pc1 := 5) (L1 := [some (.ref 188), some (.ref x1), some (.int x2), some (.int x3), d4]) (st1 := [.int 6, .int x3]) (M1 := mjTo Z) rfl ?_
      by_cases hc101 : mjCmp .ge x3 6 = true
      · rw [if_pos hc101] at h
        refine pG_cmt (t := 56) rfl rfl hc101 ?_
        refine pG_many 2 (pc1 := 58) (L1 := [some (.ref 188), some (.ref x1), some (.int x2), some (.int x3), d4]) (st1 := [.ref 188, .ref x1]) (M1 := mjTo Z) rfl ?_
        refine pG_getR (ci := 5) (f := 0) (b := 189) rfl rfl rfl (by rfl) rfl ?_
        refine pG_many 1 (pc1 := 62) (L1 := [some (.ref 188), some (.ref x1), some (.int x2), some (.int x3), d4]) (st1 := [.int x2, .ref 189, .ref x1]) (M1 := mjTo Z) rfl ?_
        have hk102 : mjIs x1 251 2 = true := by
          by_cases q9 : mjIs x1 251 2 = true
          · exact q9
          · rw [if_neg q9] at h; cases h
        rw [if_pos hk102] at h
        cases hq103 : f44_kth x1 189 x2 Z with
        | none => rw [hq103] at h; cases h
        | some v104 =>
          rw [hq103, mjBp_some] at h
          refine pG_callV (k2 := 44) (As := [.ref x1, .ref 189, .int x2]) (rest := []) rfl rfl rfl rfl rfl (mjRcv_is hk102 (by decide)) (by decide) (f44_kth_ok hq103) ?_
          rintro r9 M9 ⟨rfl, rfl⟩
          show pG 105 65 [some (.ref 188), some (.ref x1), some (.int x2), some (.int x3), d4] [.int v104] (mjTo Z) _
          simp only [Option.some.injEq, Prod.mk.injEq] at h
          obtain ⟨rfl, rfl⟩ := h
          exact pG_ret (r := some (.int v104)) rfl ⟨rfl, rfl⟩
      · rw [if_neg hc101] at h
        refine pG_cmf (t := 56) rfl rfl hc101 ?_
        refine pG_many 2 (pc1 := 10) (L1 := [some (.ref 188), some (.ref x1), some (.int x2), some (.int x3), d4]) (st1 := [.int x3, .ref x1]) (M1 := mjTo Z) rfl ?_
        have hk106 : mjIs x1 251 2 = true := by
          by_cases q9 : mjIs x1 251 2 = true
          · exact q9
          · rw [if_neg q9] at h; cases h
        rw [if_pos hk106] at h
        cases hq107 : f8_runner x1 x3 Z with
        | none => rw [hq107] at h; cases h
        | some v108 =>
          rw [hq107, mjBp_some] at h
          refine pG_callV (k2 := 8) (As := [.ref x1, .int x3]) (rest := []) rfl rfl rfl rfl rfl (mjRcv_is hk106 (by decide)) (by decide) (f8_runner_ok hq107) ?_
          rintro r9 M9 ⟨rfl, rfl⟩
          show pG 105 13 [some (.ref 188), some (.ref x1), some (.int x2), some (.int x3), d4] [.ref v108] (mjTo Z) _
          refine pG_many 1 (pc1 := 14) (L1 := [some (.ref 188), some (.ref x1), some (.int x2), some (.int x3), d4]) (st1 := [.ref x1, .ref v108]) (M1 := mjTo Z) rfl ?_
          refine pG_getI (ci := 2) (f := 1) rfl rfl (Or.inl rfl) hk106 ?_
          refine pG_many 1 (pc1 := 18) (L1 := [some (.ref 188), some (.ref x1), some (.int x2), some (.int x3), d4]) (st1 := [.ref x1, .int (Z.1 x1 1), .ref v108]) (M1 := mjTo Z) rfl ?_
          refine pG_getI (ci := 2) (f := 4) rfl rfl (Or.inl rfl) hk106 ?_
          refine pG_many 3 (pc1 := 25) (L1 := [some (.ref 188), some (.ref x1), some (.int x2), some (.int x3), d4]) (st1 := [.int (((Z.1 x1 1) + (Z.1 x1 4)) * 10), .ref v108]) (M1 := mjTo Z) rfl ?_
          have hk110 : mjIs v108 251 7 = true := by
            by_cases q9 : mjIs v108 251 7 = true
            · exact q9
            · rw [if_neg q9] at h; cases h
          rw [if_pos hk110] at h
          cases hq111 : f104_arrival v108 (((Z.1 x1 1) + (Z.1 x1 4)) * 10) Z with
          | none => rw [hq111] at h; cases h
          | some v112 =>
            rw [hq111, mjBp_some] at h
            refine pG_callV (k2 := 104) (As := [.ref v108, .int (((Z.1 x1 1) + (Z.1 x1 4)) * 10)]) (rest := []) rfl rfl rfl rfl rfl (mjRcv_is hk110 (by decide)) (by decide) (f104_arrival_ok hq111) ?_
            rintro r9 M9 ⟨rfl, rfl⟩
            show pG 105 28 [some (.ref 188), some (.ref x1), some (.int x2), some (.int x3), d4] [.int v112] (mjTo Z) _
            refine pG_many 2 (pc1 := 31) (L1 := [some (.ref 188), some (.ref x1), some (.int x2), some (.int x3), some (.int v112)]) (st1 := [.ref 188]) (M1 := mjTo Z) rfl ?_
            refine pG_getR (ci := 5) (f := 0) (b := 189) rfl rfl rfl (by rfl) rfl ?_
            refine pG_many 3 (pc1 := 39) (L1 := [some (.ref 188), some (.ref x1), some (.int x2), some (.int x3), some (.int v112)]) (st1 := [.int ((-2)), .int v112, .int x3, .ref 189]) (M1 := mjTo Z) rfl ?_
            by_cases hc114 : mjCmp .ne v112 ((-2)) = true
            · rw [if_pos hc114] at h
              refine pG_cmt (t := 47) rfl rfl hc114 ?_
              refine pG_many 1 (pc1 := 49) (L1 := [some (.ref 188), some (.ref x1), some (.int x2), some (.int x3), some (.int v112)]) (st1 := [.int v112, .int x3, .ref 189]) (M1 := mjTo Z) rfl ?_
              have hk115 : mjIn x3 6 = true := by
                by_cases q9 : mjIn x3 6 = true
                · exact q9
                · rw [if_neg q9] at h; cases h
              rw [if_pos hk115] at h
              refine pG_ias rfl (by rfl) hk115 (?_ : pG 105 50 [some (.ref 188), some (.ref x1), some (.int x2), some (.int x3), some (.int v112)] [] (mjTo (zSi Z 189 (mjIx x3) v112)) _)
              rw [mjLet] at h
              generalize zSi Z 189 (mjIx x3) v112 = Z116 at h ⊢
              refine pG_many 2 (pc1 := 2) (L1 := [some (.ref 188), some (.ref x1), some (.int x2), some (.int (x3 + 1)), some (.int v112)]) (st1 := []) (M1 := mjTo Z116) rfl ?_
              exact f105_kthToCut_h2_ok n x1 x2 (x3 + 1) (some (.int v112)) Z116 v9 Z9 h
            · rw [if_neg hc114] at h
              refine pG_cmf (t := 47) rfl rfl hc114 ?_
              refine pG_many 2 (pc1 := 49) (L1 := [some (.ref 188), some (.ref x1), some (.int x2), some (.int x3), some (.int v112)]) (st1 := [.int 2147483647, .int x3, .ref 189]) (M1 := mjTo Z) rfl ?_
              have hk117 : mjIn x3 6 = true := by
                by_cases q9 : mjIn x3 6 = true
                · exact q9
                · rw [if_neg q9] at h; cases h
              rw [if_pos hk117] at h
              refine pG_ias rfl (by rfl) hk117 (?_ : pG 105 50 [some (.ref 188), some (.ref x1), some (.int x2), some (.int x3), some (.int v112)] [] (mjTo (zSi Z 189 (mjIx x3) 2147483647)) _)
              rw [mjLet] at h
              generalize zSi Z 189 (mjIx x3) 2147483647 = Z118 at h ⊢
              refine pG_many 2 (pc1 := 2) (L1 := [some (.ref 188), some (.ref x1), some (.int x2), some (.int (x3 + 1)), some (.int v112)]) (st1 := []) (M1 := mjTo Z118) rfl ?_
              exact f105_kthToCut_h2_ok n x1 x2 (x3 + 1) (some (.int v112)) Z118 v9 Z9 h
def f105_kthToCut (p0 : Nat) (p1 : Int32) (Z : mjZt) : Option (Int32 × mjZt) :=
  f105_kthToCut_h2 mjF p0 p1 0 Z
theorem f105_kthToCut_ok {p0 : Nat} {p1 : Int32} {Z : mjZt} {v9 : Int32} {Z9 : mjZt} (h : f105_kthToCut p0 p1 Z = some (v9, Z9)) : pG 105 0 (mjEnt [.ref 188, .ref p0, .int p1] (mjML 105)) [] (mjTo Z) (fun r M1 => r = some (.int v9) ∧ M1 = mjTo Z9) := by
  unfold f105_kthToCut at h
  show pG 105 0 [some (.ref 188), some (.ref p0), some (.int p1), none, none] [] (mjTo Z) _
  refine pG_many 2 (pc1 := 2) (L1 := [some (.ref 188), some (.ref p0), some (.int p1), some (.int 0), none]) (st1 := []) (M1 := mjTo Z) rfl ?_
  exact f105_kthToCut_h2_ok mjF p0 p1 0 none Z v9 Z9 h
def f106_laterToLine_h40 : Nat → Nat → Int32 → Int32 → Int32 → Int32 → mjZt → Option Int32
  | 0, _, _, _, _, _, _ => none
  | n + 1, x1, x4, x5, x6, x7, Z =>
    if mjIs x1 251 2 = true then
    if mjCmp .ge x7 (Z.1 x1 5) = true then
      some (x5 - x6)
    else
      mjBp (f8_runner x1 x7 Z) fun v113 =>
      if mjIs v113 251 7 = true then
      mjBp (f104_arrival v113 x4 Z) fun v117 =>
      if mjCmp .eq v117 ((-2)) = true then
        f106_laterToLine_h40 n x1 x4 x5 x6 (x7 + 1) Z
      else
        f106_laterToLine_h40 n x1 x4 x5 (mjMin x6 v117) (x7 + 1) Z
      else none
    else none
theorem f106_laterToLine_h40_ok : ∀ (n : Nat) (x1 : Nat) (x4 : Int32) (x5 : Int32) (x6 : Int32) (x7 : Int32) (d0 d2 d3 d8 : Option Value) (Z : mjZt) (v9 : Int32), f106_laterToLine_h40 n x1 x4 x5 x6 x7 Z = some v9 → pG 106 40 [d0, some (.ref x1), d2, d3, some (.int x4), some (.int x5), some (.int x6), some (.int x7), d8] [] (mjTo Z) (fun r M1 => r = some (.int v9) ∧ M1 = mjTo Z)
  | 0, x1, x4, x5, x6, x7, d0, d2, d3, d8, Z, v9, h => by rw [f106_laterToLine_h40] at h; cases h
  | n + 1, x1, x4, x5, x6, x7, d0, d2, d3, d8, Z, v9, h => by
      rw [f106_laterToLine_h40] at h
      refine pG_many 2 (pc1 := 43) (L1 := [d0, some (.ref x1), d2, d3, some (.int x4), some (.int x5), some (.int x6), some (.int x7), d8]) (st1 := [.ref x1, .int x7]) (M1 := mjTo Z) rfl ?_
      have hk110 : mjIs x1 251 2 = true := by
        by_cases q9 : mjIs x1 251 2 = true
        · exact q9
        · rw [if_neg q9] at h; cases h
      rw [if_pos hk110] at h
      refine pG_getI (ci := 2) (f := 5) rfl rfl (Or.inl rfl) hk110 ?_
      by_cases hc111 : mjCmp .ge x7 (Z.1 x1 5) = true
      · rw [if_pos hc111] at h
        refine pG_cmt (t := 84) rfl rfl hc111 ?_
        refine pG_many 3 (pc1 := 89) (L1 := [d0, some (.ref x1), d2, d3, some (.int x4), some (.int x5), some (.int x6), some (.int x7), d8]) (st1 := [.int (x5 - x6)]) (M1 := mjTo Z) rfl ?_
        simp only [Option.some.injEq] at h
        subst h
        exact pG_ret (r := some (.int (x5 - x6))) rfl ⟨rfl, rfl⟩
      · rw [if_neg hc111] at h
        refine pG_cmf (t := 84) rfl rfl hc111 ?_
        refine pG_many 2 (pc1 := 52) (L1 := [d0, some (.ref x1), d2, d3, some (.int x4), some (.int x5), some (.int x6), some (.int x7), d8]) (st1 := [.int x7, .ref x1]) (M1 := mjTo Z) rfl ?_
        cases hq112 : f8_runner x1 x7 Z with
        | none => rw [hq112] at h; cases h
        | some v113 =>
          rw [hq112, mjBp_some] at h
          refine pG_callV (k2 := 8) (As := [.ref x1, .int x7]) (rest := []) rfl rfl rfl rfl rfl (mjRcv_is hk110 (by decide)) (by decide) (f8_runner_ok hq112) ?_
          rintro r9 M9 ⟨rfl, rfl⟩
          show pG 106 55 [d0, some (.ref x1), d2, d3, some (.int x4), some (.int x5), some (.int x6), some (.int x7), d8] [.ref v113] (mjTo Z) _
          refine pG_many 1 (pc1 := 57) (L1 := [d0, some (.ref x1), d2, d3, some (.int x4), some (.int x5), some (.int x6), some (.int x7), d8]) (st1 := [.int x4, .ref v113]) (M1 := mjTo Z) rfl ?_
          have hk115 : mjIs v113 251 7 = true := by
            by_cases q9 : mjIs v113 251 7 = true
            · exact q9
            · rw [if_neg q9] at h; cases h
          rw [if_pos hk115] at h
          cases hq116 : f104_arrival v113 x4 Z with
          | none => rw [hq116] at h; cases h
          | some v117 =>
            rw [hq116, mjBp_some] at h
            refine pG_callV (k2 := 104) (As := [.ref v113, .int x4]) (rest := []) rfl rfl rfl rfl rfl (mjRcv_is hk115 (by decide)) (by decide) (f104_arrival_ok hq116) ?_
            rintro r9 M9 ⟨rfl, rfl⟩
            show pG 106 60 [d0, some (.ref x1), d2, d3, some (.int x4), some (.int x5), some (.int x6), some (.int x7), d8] [.int v117] (mjTo Z) _
            refine pG_many 3 (pc1 := 66) (L1 := [d0, some (.ref x1), d2, d3, some (.int x4), some (.int x5), some (.int x6), some (.int x7), some (.int v117)]) (st1 := [.int ((-2)), .int v117]) (M1 := mjTo Z) rfl ?_
            by_cases hc119 : mjCmp .eq v117 ((-2)) = true
            · rw [if_pos hc119] at h
              refine pG_cmt (t := 78) rfl rfl hc119 ?_
              refine pG_many 2 (pc1 := 40) (L1 := [d0, some (.ref x1), d2, d3, some (.int x4), some (.int x5), some (.int x6), some (.int (x7 + 1)), some (.int v117)]) (st1 := []) (M1 := mjTo Z) rfl ?_
              exact f106_laterToLine_h40_ok n x1 x4 x5 x6 (x7 + 1) d0 d2 d3 (some (.int v117)) Z v9 h
            · rw [if_neg hc119] at h
              refine pG_cmf (t := 78) rfl rfl hc119 ?_
              refine pG_many 2 (pc1 := 73) (L1 := [d0, some (.ref x1), d2, d3, some (.int x4), some (.int x5), some (.int x6), some (.int x7), some (.int v117)]) (st1 := [.int v117, .int x6]) (M1 := mjTo Z) rfl ?_
              refine pG_prim (v := .int (mjMin x6 v117)) rfl (by decide) rfl ?_
              refine pG_many 3 (pc1 := 40) (L1 := [d0, some (.ref x1), d2, d3, some (.int x4), some (.int x5), some (.int (mjMin x6 v117)), some (.int (x7 + 1)), some (.int v117)]) (st1 := []) (M1 := mjTo Z) rfl ?_
              exact f106_laterToLine_h40_ok n x1 x4 x5 (mjMin x6 v117) (x7 + 1) d0 d2 d3 (some (.int v117)) Z v9 h
def f106_laterToLine (p0 : Nat) (p1 : Int32) (p2 : Int32) (Z : mjZt) : Option Int32 :=
  if mjIs p0 251 2 = true then
  mjBp (f8_runner p0 p1 Z) fun v103 =>
  if mjIs v103 251 7 = true then
  mjBp (f104_arrival v103 ((p2 * (Z.1 p0 1)) * 10) Z) fun v107 =>
  if mjCmp .ne v107 ((-2)) = true then
    f106_laterToLine_h40 mjF p0 ((p2 * (Z.1 p0 1)) * 10) v107 v107 0 Z
  else
    some ((-2))
  else none
  else none
theorem f106_laterToLine_ok {p0 : Nat} {p1 : Int32} {p2 : Int32} {Z : mjZt} {v9 : Int32} (h : f106_laterToLine p0 p1 p2 Z = some v9) : pG 106 0 (mjEnt [.ref 188, .ref p0, .int p1, .int p2] (mjML 106)) [] (mjTo Z) (fun r M1 => r = some (.int v9) ∧ M1 = mjTo Z) := by
  unfold f106_laterToLine at h
  show pG 106 0 [some (.ref 188), some (.ref p0), some (.int p1), some (.int p2), none, none, none, none, none] [] (mjTo Z) _
  refine pG_many 2 (pc1 := 2) (L1 := [some (.ref 188), some (.ref p0), some (.int p1), some (.int p2), none, none, none, none, none]) (st1 := [.ref p0, .int p2]) (M1 := mjTo Z) rfl ?_
  have hk101 : mjIs p0 251 2 = true := by
    by_cases q9 : mjIs p0 251 2 = true
    · exact q9
    · rw [if_neg q9] at h; cases h
  rw [if_pos hk101] at h
  refine pG_getI (ci := 2) (f := 1) rfl rfl (Or.inl rfl) hk101 ?_
  refine pG_many 6 (pc1 := 13) (L1 := [some (.ref 188), some (.ref p0), some (.int p1), some (.int p2), some (.int ((p2 * (Z.1 p0 1)) * 10)), none, none, none, none]) (st1 := [.int p1, .ref p0]) (M1 := mjTo Z) rfl ?_
  cases hq102 : f8_runner p0 p1 Z with
  | none => rw [hq102] at h; cases h
  | some v103 =>
    rw [hq102, mjBp_some] at h
    refine pG_callV (k2 := 8) (As := [.ref p0, .int p1]) (rest := []) rfl rfl rfl rfl rfl (mjRcv_is hk101 (by decide)) (by decide) (f8_runner_ok hq102) ?_
    rintro r9 M9 ⟨rfl, rfl⟩
    show pG 106 16 [some (.ref 188), some (.ref p0), some (.int p1), some (.int p2), some (.int ((p2 * (Z.1 p0 1)) * 10)), none, none, none, none] [.ref v103] (mjTo Z) _
    refine pG_many 1 (pc1 := 18) (L1 := [some (.ref 188), some (.ref p0), some (.int p1), some (.int p2), some (.int ((p2 * (Z.1 p0 1)) * 10)), none, none, none, none]) (st1 := [.int ((p2 * (Z.1 p0 1)) * 10), .ref v103]) (M1 := mjTo Z) rfl ?_
    have hk105 : mjIs v103 251 7 = true := by
      by_cases q9 : mjIs v103 251 7 = true
      · exact q9
      · rw [if_neg q9] at h; cases h
    rw [if_pos hk105] at h
    cases hq106 : f104_arrival v103 ((p2 * (Z.1 p0 1)) * 10) Z with
    | none => rw [hq106] at h; cases h
    | some v107 =>
      rw [hq106, mjBp_some] at h
      refine pG_callV (k2 := 104) (As := [.ref v103, .int ((p2 * (Z.1 p0 1)) * 10)]) (rest := []) rfl rfl rfl rfl rfl (mjRcv_is hk105 (by decide)) (by decide) (f104_arrival_ok hq106) ?_
      rintro r9 M9 ⟨rfl, rfl⟩
      show pG 106 21 [some (.ref 188), some (.ref p0), some (.int p1), some (.int p2), some (.int ((p2 * (Z.1 p0 1)) * 10)), none, none, none, none] [.int v107] (mjTo Z) _
      refine pG_many 3 (pc1 := 27) (L1 := [some (.ref 188), some (.ref p0), some (.int p1), some (.int p2), some (.int ((p2 * (Z.1 p0 1)) * 10)), some (.int v107), none, none, none]) (st1 := [.int ((-2)), .int v107]) (M1 := mjTo Z) rfl ?_
      by_cases hc109 : mjCmp .ne v107 ((-2)) = true
      · rw [if_pos hc109] at h
        refine pG_cmt (t := 33) rfl rfl hc109 ?_
        refine pG_many 4 (pc1 := 40) (L1 := [some (.ref 188), some (.ref p0), some (.int p1), some (.int p2), some (.int ((p2 * (Z.1 p0 1)) * 10)), some (.int v107), some (.int v107), some (.int 0), none]) (st1 := []) (M1 := mjTo Z) rfl ?_
        exact f106_laterToLine_h40_ok mjF p0 ((p2 * (Z.1 p0 1)) * 10) v107 v107 0 (some (.ref 188)) (some (.int p1)) (some (.int p2)) none Z v9 h
      · rw [if_neg hc109] at h
        refine pG_cmf (t := 33) rfl rfl hc109 ?_
        refine pG_many 1 (pc1 := 32) (L1 := [some (.ref 188), some (.ref p0), some (.int p1), some (.int p2), some (.int ((p2 * (Z.1 p0 1)) * 10)), some (.int v107), none, none, none]) (st1 := [.int ((-2))]) (M1 := mjTo Z) rfl ?_
        simp only [Option.some.injEq] at h
        subst h
        exact pG_ret (r := some (.int ((-2)))) rfl ⟨rfl, rfl⟩
def f107_mostWithin_h33 (K : Nat → Int32 → Int32 → Int32 → Int32 → Int32 → mjZt → Option Int32) : Nat → Nat → Int32 → Int32 → Int32 → Int32 → Int32 → Int32 → Int32 → mjZt → Option Int32
  | 0, _, _, _, _, _, _, _, _, _ => none
  | n + 1, x1, x2, x3, x4, x5, x6, x7, x8, Z =>
    if mjIs x1 251 2 = true then
    if mjCmp .ge x8 (Z.1 x1 5) = true then
      K x1 x2 x3 x4 x5 x7 Z
    else
      mjBp (f8_runner x1 x8 Z) fun v113 =>
      if mjIs v113 251 7 = true then
      mjBp (f73_whereAt v113 x2 Z) fun v117 =>
      if mjCmp .lt (v117 - x6) 0 = true then
        f107_mostWithin_h33 K n x1 x2 x3 x4 x5 x6 x7 (x8 + 1) Z
      else
        if mjCmp .gt (v117 - x6) x3 = true then
          f107_mostWithin_h33 K n x1 x2 x3 x4 x5 x6 x7 (x8 + 1) Z
        else
          f107_mostWithin_h33 K n x1 x2 x3 x4 x5 x6 (x7 + 1) (x8 + 1) Z
      else none
    else none
theorem f107_mostWithin_h33_ok (K : Nat → Int32 → Int32 → Int32 → Int32 → Int32 → mjZt → Option Int32) (hK : ∀ (x1 : Nat) (x2 : Int32) (x3 : Int32) (x4 : Int32) (x5 : Int32) (x7 : Int32) (d0 d6 d8 d9 : Option Value) (Z : mjZt) (v9 : Int32), K x1 x2 x3 x4 x5 x7 Z = some v9 → pG 107 77 [d0, some (.ref x1), some (.int x2), some (.int x3), some (.int x4), some (.int x5), d6, some (.int x7), d8, d9] [] (mjTo Z) (fun r M1 => r = some (.int v9) ∧ M1 = mjTo Z)) : ∀ (n : Nat) (x1 : Nat) (x2 : Int32) (x3 : Int32) (x4 : Int32) (x5 : Int32) (x6 : Int32) (x7 : Int32) (x8 : Int32) (d0 d9 : Option Value) (Z : mjZt) (v9 : Int32), f107_mostWithin_h33 K n x1 x2 x3 x4 x5 x6 x7 x8 Z = some v9 → pG 107 33 [d0, some (.ref x1), some (.int x2), some (.int x3), some (.int x4), some (.int x5), some (.int x6), some (.int x7), some (.int x8), d9] [] (mjTo Z) (fun r M1 => r = some (.int v9) ∧ M1 = mjTo Z)
  | 0, x1, x2, x3, x4, x5, x6, x7, x8, d0, d9, Z, v9, h => by rw [f107_mostWithin_h33] at h; cases h
  | n + 1, x1, x2, x3, x4, x5, x6, x7, x8, d0, d9, Z, v9, h => by
      rw [f107_mostWithin_h33] at h
      refine pG_many 2 (pc1 := 36) (L1 := [d0, some (.ref x1), some (.int x2), some (.int x3), some (.int x4), some (.int x5), some (.int x6), some (.int x7), some (.int x8), d9]) (st1 := [.ref x1, .int x8]) (M1 := mjTo Z) rfl ?_
      have hk110 : mjIs x1 251 2 = true := by
        by_cases q9 : mjIs x1 251 2 = true
        · exact q9
        · rw [if_neg q9] at h; cases h
      rw [if_pos hk110] at h
      refine pG_getI (ci := 2) (f := 5) rfl rfl (Or.inl rfl) hk110 ?_
      by_cases hc111 : mjCmp .ge x8 (Z.1 x1 5) = true
      · rw [if_pos hc111] at h
        refine pG_cmt (t := 77) rfl rfl hc111 ?_
        exact hK x1 x2 x3 x4 x5 x7 d0 (some (.int x6)) (some (.int x8)) d9 Z v9 h
      · rw [if_neg hc111] at h
        refine pG_cmf (t := 77) rfl rfl hc111 ?_
        refine pG_many 2 (pc1 := 45) (L1 := [d0, some (.ref x1), some (.int x2), some (.int x3), some (.int x4), some (.int x5), some (.int x6), some (.int x7), some (.int x8), d9]) (st1 := [.int x8, .ref x1]) (M1 := mjTo Z) rfl ?_
        cases hq112 : f8_runner x1 x8 Z with
        | none => rw [hq112] at h; cases h
        | some v113 =>
          rw [hq112, mjBp_some] at h
          refine pG_callV (k2 := 8) (As := [.ref x1, .int x8]) (rest := []) rfl rfl rfl rfl rfl (mjRcv_is hk110 (by decide)) (by decide) (f8_runner_ok hq112) ?_
          rintro r9 M9 ⟨rfl, rfl⟩
          show pG 107 48 [d0, some (.ref x1), some (.int x2), some (.int x3), some (.int x4), some (.int x5), some (.int x6), some (.int x7), some (.int x8), d9] [.ref v113] (mjTo Z) _
          refine pG_many 1 (pc1 := 49) (L1 := [d0, some (.ref x1), some (.int x2), some (.int x3), some (.int x4), some (.int x5), some (.int x6), some (.int x7), some (.int x8), d9]) (st1 := [.int x2, .ref v113]) (M1 := mjTo Z) rfl ?_
          have hk115 : mjIs v113 251 7 = true := by
            by_cases q9 : mjIs v113 251 7 = true
            · exact q9
            · rw [if_neg q9] at h; cases h
          rw [if_pos hk115] at h
          cases hq116 : f73_whereAt v113 x2 Z with
          | none => rw [hq116] at h; cases h
          | some v117 =>
            rw [hq116, mjBp_some] at h
            refine pG_callV (k2 := 73) (As := [.ref v113, .int x2]) (rest := []) rfl rfl rfl rfl rfl (mjRcv_is hk115 (by decide)) (by decide) (f73_whereAt_ok hq116) ?_
            rintro r9 M9 ⟨rfl, rfl⟩
            show pG 107 52 [d0, some (.ref x1), some (.int x2), some (.int x3), some (.int x4), some (.int x5), some (.int x6), some (.int x7), some (.int x8), d9] [.int v117] (mjTo Z) _
            refine pG_many 4 (pc1 := 59) (L1 := [d0, some (.ref x1), some (.int x2), some (.int x3), some (.int x4), some (.int x5), some (.int x6), some (.int x7), some (.int x8), some (.int (v117 - x6))]) (st1 := [.int (v117 - x6)]) (M1 := mjTo Z) rfl ?_
            by_cases hc119 : mjCmp .lt (v117 - x6) 0 = true
            · rw [if_pos hc119] at h
              refine pG_ift (t := 71) rfl rfl hc119 ?_
              refine pG_many 2 (pc1 := 33) (L1 := [d0, some (.ref x1), some (.int x2), some (.int x3), some (.int x4), some (.int x5), some (.int x6), some (.int x7), some (.int (x8 + 1)), some (.int (v117 - x6))]) (st1 := []) (M1 := mjTo Z) rfl ?_
              exact f107_mostWithin_h33_ok K hK n x1 x2 x3 x4 x5 x6 x7 (x8 + 1) d0 (some (.int (v117 - x6))) Z v9 h
            · rw [if_neg hc119] at h
              refine pG_iff (t := 71) rfl rfl hc119 ?_
              refine pG_many 2 (pc1 := 65) (L1 := [d0, some (.ref x1), some (.int x2), some (.int x3), some (.int x4), some (.int x5), some (.int x6), some (.int x7), some (.int x8), some (.int (v117 - x6))]) (st1 := [.int x3, .int (v117 - x6)]) (M1 := mjTo Z) rfl ?_
              by_cases hc120 : mjCmp .gt (v117 - x6) x3 = true
              · rw [if_pos hc120] at h
                refine pG_cmt (t := 71) rfl rfl hc120 ?_
                refine pG_many 2 (pc1 := 33) (L1 := [d0, some (.ref x1), some (.int x2), some (.int x3), some (.int x4), some (.int x5), some (.int x6), some (.int x7), some (.int (x8 + 1)), some (.int (v117 - x6))]) (st1 := []) (M1 := mjTo Z) rfl ?_
                exact f107_mostWithin_h33_ok K hK n x1 x2 x3 x4 x5 x6 x7 (x8 + 1) d0 (some (.int (v117 - x6))) Z v9 h
              · rw [if_neg hc120] at h
                refine pG_cmf (t := 71) rfl rfl hc120 ?_
                refine pG_many 3 (pc1 := 33) (L1 := [d0, some (.ref x1), some (.int x2), some (.int x3), some (.int x4), some (.int x5), some (.int x6), some (.int (x7 + 1)), some (.int (x8 + 1)), some (.int (v117 - x6))]) (st1 := []) (M1 := mjTo Z) rfl ?_
                exact f107_mostWithin_h33_ok K hK n x1 x2 x3 x4 x5 x6 (x7 + 1) (x8 + 1) d0 (some (.int (v117 - x6))) Z v9 h
def f107_mostWithin_h6 : Nat → Nat → Int32 → Int32 → Int32 → Int32 → mjZt → Option Int32
  | 0, _, _, _, _, _, _ => none
  | n + 1, x1, x2, x3, x4, x5, Z =>
    if mjIs x1 251 2 = true then
    if mjCmp .ge x5 (Z.1 x1 5) = true then
      some x4
    else
      mjBp (f8_runner x1 x5 Z) fun v104 =>
      if mjIs v104 251 7 = true then
      mjBp (f73_whereAt v104 x2 Z) fun v108 =>
      f107_mostWithin_h33 (fun x1_Z121 x2_Z121 x3_Z121 x4_Z121 x5_Z121 x7_Z121 Z121 =>
        f107_mostWithin_h6 n x1_Z121 x2_Z121 x3_Z121 (mjMax x4_Z121 x7_Z121) (x5_Z121 + 1) Z121
        ) mjF x1 x2 x3 x4 x5 v108 0 0 Z
      else none
    else none
theorem f107_mostWithin_h6_ok : ∀ (n : Nat) (x1 : Nat) (x2 : Int32) (x3 : Int32) (x4 : Int32) (x5 : Int32) (d0 d6 d7 d8 d9 : Option Value) (Z : mjZt) (v9 : Int32), f107_mostWithin_h6 n x1 x2 x3 x4 x5 Z = some v9 → pG 107 6 [d0, some (.ref x1), some (.int x2), some (.int x3), some (.int x4), some (.int x5), d6, d7, d8, d9] [] (mjTo Z) (fun r M1 => r = some (.int v9) ∧ M1 = mjTo Z)
  | 0, x1, x2, x3, x4, x5, d0, d6, d7, d8, d9, Z, v9, h => by rw [f107_mostWithin_h6] at h; cases h
  | n + 1, x1, x2, x3, x4, x5, d0, d6, d7, d8, d9, Z, v9, h => by
      rw [f107_mostWithin_h6] at h
      refine pG_many 2 (pc1 := 9) (L1 := [d0, some (.ref x1), some (.int x2), some (.int x3), some (.int x4), some (.int x5), d6, d7, d8, d9]) (st1 := [.ref x1, .int x5]) (M1 := mjTo Z) rfl ?_
      have hk101 : mjIs x1 251 2 = true := by
        by_cases q9 : mjIs x1 251 2 = true
        · exact q9
        · rw [if_neg q9] at h; cases h
      rw [if_pos hk101] at h
      refine pG_getI (ci := 2) (f := 5) rfl rfl (Or.inl rfl) hk101 ?_
      by_cases hc102 : mjCmp .ge x5 (Z.1 x1 5) = true
      · rw [if_pos hc102] at h
        refine pG_cmt (t := 92) rfl rfl hc102 ?_
        refine pG_many 1 (pc1 := 94) (L1 := [d0, some (.ref x1), some (.int x2), some (.int x3), some (.int x4), some (.int x5), d6, d7, d8, d9]) (st1 := [.int x4]) (M1 := mjTo Z) rfl ?_
        simp only [Option.some.injEq] at h
        subst h
        exact pG_ret (r := some (.int x4)) rfl ⟨rfl, rfl⟩
      · rw [if_neg hc102] at h
        refine pG_cmf (t := 92) rfl rfl hc102 ?_
        refine pG_many 2 (pc1 := 18) (L1 := [d0, some (.ref x1), some (.int x2), some (.int x3), some (.int x4), some (.int x5), d6, d7, d8, d9]) (st1 := [.int x5, .ref x1]) (M1 := mjTo Z) rfl ?_
        cases hq103 : f8_runner x1 x5 Z with
        | none => rw [hq103] at h; cases h
        | some v104 =>
          rw [hq103, mjBp_some] at h
          refine pG_callV (k2 := 8) (As := [.ref x1, .int x5]) (rest := []) rfl rfl rfl rfl rfl (mjRcv_is hk101 (by decide)) (by decide) (f8_runner_ok hq103) ?_
          rintro r9 M9 ⟨rfl, rfl⟩
          show pG 107 21 [d0, some (.ref x1), some (.int x2), some (.int x3), some (.int x4), some (.int x5), d6, d7, d8, d9] [.ref v104] (mjTo Z) _
          refine pG_many 1 (pc1 := 22) (L1 := [d0, some (.ref x1), some (.int x2), some (.int x3), some (.int x4), some (.int x5), d6, d7, d8, d9]) (st1 := [.int x2, .ref v104]) (M1 := mjTo Z) rfl ?_
          have hk106 : mjIs v104 251 7 = true := by
            by_cases q9 : mjIs v104 251 7 = true
            · exact q9
            · rw [if_neg q9] at h; cases h
          rw [if_pos hk106] at h
          cases hq107 : f73_whereAt v104 x2 Z with
          | none => rw [hq107] at h; cases h
          | some v108 =>
            rw [hq107, mjBp_some] at h
            refine pG_callV (k2 := 73) (As := [.ref v104, .int x2]) (rest := []) rfl rfl rfl rfl rfl (mjRcv_is hk106 (by decide)) (by decide) (f73_whereAt_ok hq107) ?_
            rintro r9 M9 ⟨rfl, rfl⟩
            show pG 107 25 [d0, some (.ref x1), some (.int x2), some (.int x3), some (.int x4), some (.int x5), d6, d7, d8, d9] [.int v108] (mjTo Z) _
            refine pG_many 5 (pc1 := 33) (L1 := [d0, some (.ref x1), some (.int x2), some (.int x3), some (.int x4), some (.int x5), some (.int v108), some (.int 0), some (.int 0), d9]) (st1 := []) (M1 := mjTo Z) rfl ?_
            refine f107_mostWithin_h33_ok _ ?_ mjF x1 x2 x3 x4 x5 v108 0 0 d0 d9 Z v9 h
            clear h
            intro x1_Z121 x2_Z121 x3_Z121 x4_Z121 x5_Z121 x7_Z121 d0 d6 d8 d9 Z121 v9 h
            refine pG_many 2 (pc1 := 81) (L1 := [d0, some (.ref x1_Z121), some (.int x2_Z121), some (.int x3_Z121), some (.int x4_Z121), some (.int x5_Z121), d6, some (.int x7_Z121), d8, d9]) (st1 := [.int x7_Z121, .int x4_Z121]) (M1 := mjTo Z121) rfl ?_
            refine pG_prim (v := .int (mjMax x4_Z121 x7_Z121)) rfl (by decide) rfl ?_
            refine pG_many 3 (pc1 := 6) (L1 := [d0, some (.ref x1_Z121), some (.int x2_Z121), some (.int x3_Z121), some (.int (mjMax x4_Z121 x7_Z121)), some (.int (x5_Z121 + 1)), d6, some (.int x7_Z121), d8, d9]) (st1 := []) (M1 := mjTo Z121) rfl ?_
            exact f107_mostWithin_h6_ok n x1_Z121 x2_Z121 x3_Z121 (mjMax x4_Z121 x7_Z121) (x5_Z121 + 1) d0 d6 (some (.int x7_Z121)) d8 d9 Z121 v9 h
def f107_mostWithin (p0 : Nat) (p1 : Int32) (p2 : Int32) (Z : mjZt) : Option Int32 :=
  f107_mostWithin_h6 mjF p0 p1 p2 0 0 Z
theorem f107_mostWithin_ok {p0 : Nat} {p1 : Int32} {p2 : Int32} {Z : mjZt} {v9 : Int32} (h : f107_mostWithin p0 p1 p2 Z = some v9) : pG 107 0 (mjEnt [.ref 188, .ref p0, .int p1, .int p2] (mjML 107)) [] (mjTo Z) (fun r M1 => r = some (.int v9) ∧ M1 = mjTo Z) := by
  unfold f107_mostWithin at h
  show pG 107 0 [some (.ref 188), some (.ref p0), some (.int p1), some (.int p2), none, none, none, none, none, none] [] (mjTo Z) _
  refine pG_many 4 (pc1 := 6) (L1 := [some (.ref 188), some (.ref p0), some (.int p1), some (.int p2), some (.int 0), some (.int 0), none, none, none, none]) (st1 := []) (M1 := mjTo Z) rfl ?_
  exact f107_mostWithin_h6_ok mjF p0 p1 p2 0 0 (some (.ref 188)) none none none none Z v9 h
def f108_tenthsOf (a0 : Nat) (p0 : Int32) (Z : mjZt) : Option Int32 :=
  if mjIs a0 251 7 = true then
  mjBp (f5_at (a0 + 1) p0 Z) fun v103 =>
  some v103
  else none
theorem f108_tenthsOf_ok {a0 : Nat} {p0 : Int32} {Z : mjZt} {v9 : Int32} (h : f108_tenthsOf a0 p0 Z = some v9) : pG 108 0 (mjEnt [.ref a0, .int p0] (mjML 108)) [] (mjTo Z) (fun r M1 => r = some (.int v9) ∧ M1 = mjTo Z) := by
  unfold f108_tenthsOf at h
  show pG 108 0 [some (.ref a0), some (.int p0)] [] (mjTo Z) _
  refine pG_many 1 (pc1 := 1) (L1 := [some (.ref a0), some (.int p0)]) (st1 := [.ref a0]) (M1 := mjTo Z) rfl ?_
  have hk101 : mjIs a0 251 7 = true := by
    by_cases q9 : mjIs a0 251 7 = true
    · exact q9
    · rw [if_neg q9] at h; cases h
  rw [if_pos hk101] at h
  refine pG_getR (ci := 7) (f := 0) (b := a0 + 1) rfl rfl rfl hk101 (mjRc7_0 hk101) ?_
  refine pG_many 1 (pc1 := 5) (L1 := [some (.ref a0), some (.int p0)]) (st1 := [.int p0, .ref (a0 + 1)]) (M1 := mjTo Z) rfl ?_
  cases hq102 : f5_at (a0 + 1) p0 Z with
  | none => rw [hq102] at h; cases h
  | some v103 =>
    rw [hq102, mjBp_some] at h
    refine pG_call (k2 := 5) (As := [.ref (a0 + 1), .int p0]) (rest := []) rfl (by decide) (f5_at_ok hq102) ?_
    rintro r9 M9 ⟨rfl, rfl⟩
    show pG 108 8 [some (.ref a0), some (.int p0)] [.int v103] (mjTo Z) _
    simp only [Option.some.injEq] at h
    subst h
    exact pG_ret (r := some (.int v103)) rfl ⟨rfl, rfl⟩
def f109_fastestOf_h2 : Nat → Nat → Int32 → Int32 → mjZt → Option (Int32 × mjZt)
  | 0, _, _, _, _ => none
  | n + 1, x1, x2, x3, Z =>
    if mjCmp .ge x3 6 = true then
      if mjIs x1 251 2 = true then
      mjBp (f44_kth x1 189 0 Z) fun v104 =>
      some (v104, Z)
      else none
    else
      if mjIs x1 251 2 = true then
      mjBp (f19_hasLeg x1 x3 x2 Z) fun v108 =>
      if mjCmp .eq v108 0 = true then
        if mjIn x3 6 = true then
        mjLet (zSi Z 189 (mjIx x3) 2147483647) fun Z112 =>
        f109_fastestOf_h2 n x1 x2 (x3 + 1) Z112
        else none
      else
        mjBp (f8_runner x1 x3 Z) fun v114 =>
        if mjIs v114 251 7 = true then
        mjBp (f108_tenthsOf v114 x2 Z) fun v118 =>
        if mjIn x3 6 = true then
        mjLet (zSi Z 189 (mjIx x3) v118) fun Z121 =>
        f109_fastestOf_h2 n x1 x2 (x3 + 1) Z121
        else none
        else none
      else none
theorem f109_fastestOf_h2_ok : ∀ (n : Nat) (x1 : Nat) (x2 : Int32) (x3 : Int32) (Z : mjZt) (v9 : Int32) (Z9 : mjZt), f109_fastestOf_h2 n x1 x2 x3 Z = some (v9, Z9) → pG 109 2 [some (.ref 188), some (.ref x1), some (.int x2), some (.int x3)] [] (mjTo Z) (fun r M1 => r = some (.int v9) ∧ M1 = mjTo Z9)
  | 0, x1, x2, x3, Z, v9, Z9, h => by rw [f109_fastestOf_h2] at h; cases h
  | n + 1, x1, x2, x3, Z, v9, Z9, h => by
      rw [f109_fastestOf_h2] at h
      refine pG_many 2 (pc1 := 5) (L1 := [some (.ref 188), some (.ref x1), some (.int x2), some (.int x3)]) (st1 := [.int 6, .int x3]) (M1 := mjTo Z) rfl ?_
      by_cases hc101 : mjCmp .ge x3 6 = true
      · rw [if_pos hc101] at h
        refine pG_cmt (t := 43) rfl rfl hc101 ?_
        refine pG_many 2 (pc1 := 45) (L1 := [some (.ref 188), some (.ref x1), some (.int x2), some (.int x3)]) (st1 := [.ref 188, .ref x1]) (M1 := mjTo Z) rfl ?_
        refine pG_getR (ci := 5) (f := 0) (b := 189) rfl rfl rfl (by rfl) rfl ?_
        refine pG_many 1 (pc1 := 49) (L1 := [some (.ref 188), some (.ref x1), some (.int x2), some (.int x3)]) (st1 := [.int 0, .ref 189, .ref x1]) (M1 := mjTo Z) rfl ?_
        have hk102 : mjIs x1 251 2 = true := by
          by_cases q9 : mjIs x1 251 2 = true
          · exact q9
          · rw [if_neg q9] at h; cases h
        rw [if_pos hk102] at h
        cases hq103 : f44_kth x1 189 0 Z with
        | none => rw [hq103] at h; cases h
        | some v104 =>
          rw [hq103, mjBp_some] at h
          refine pG_callV (k2 := 44) (As := [.ref x1, .ref 189, .int 0]) (rest := []) rfl rfl rfl rfl rfl (mjRcv_is hk102 (by decide)) (by decide) (f44_kth_ok hq103) ?_
          rintro r9 M9 ⟨rfl, rfl⟩
          show pG 109 52 [some (.ref 188), some (.ref x1), some (.int x2), some (.int x3)] [.int v104] (mjTo Z) _
          simp only [Option.some.injEq, Prod.mk.injEq] at h
          obtain ⟨rfl, rfl⟩ := h
          exact pG_ret (r := some (.int v104)) rfl ⟨rfl, rfl⟩
      · rw [if_neg hc101] at h
        refine pG_cmf (t := 43) rfl rfl hc101 ?_
        refine pG_many 1 (pc1 := 9) (L1 := [some (.ref 188), some (.ref x1), some (.int x2), some (.int x3)]) (st1 := [.ref 188]) (M1 := mjTo Z) rfl ?_
        refine pG_getR (ci := 5) (f := 0) (b := 189) rfl rfl rfl (by rfl) rfl ?_
        refine pG_many 4 (pc1 := 16) (L1 := [some (.ref 188), some (.ref x1), some (.int x2), some (.int x3)]) (st1 := [.int x2, .int x3, .ref x1, .int x3, .ref 189]) (M1 := mjTo Z) rfl ?_
        have hk106 : mjIs x1 251 2 = true := by
          by_cases q9 : mjIs x1 251 2 = true
          · exact q9
          · rw [if_neg q9] at h; cases h
        rw [if_pos hk106] at h
        cases hq107 : f19_hasLeg x1 x3 x2 Z with
        | none => rw [hq107] at h; cases h
        | some v108 =>
          rw [hq107, mjBp_some] at h
          refine pG_callV (k2 := 19) (As := [.ref x1, .int x3, .int x2]) (rest := [.int x3, .ref 189]) rfl rfl rfl rfl rfl (mjRcv_is hk106 (by decide)) (by decide) (f19_hasLeg_ok hq107) ?_
          rintro r9 M9 ⟨rfl, rfl⟩
          show pG 109 19 [some (.ref 188), some (.ref x1), some (.int x2), some (.int x3)] [.int v108, .int x3, .ref 189] (mjTo Z) _
          by_cases hc110 : mjCmp .eq v108 0 = true
          · rw [if_pos hc110] at h
            refine pG_ift (t := 34) rfl rfl hc110 ?_
            refine pG_many 1 (pc1 := 36) (L1 := [some (.ref 188), some (.ref x1), some (.int x2), some (.int x3)]) (st1 := [.int 2147483647, .int x3, .ref 189]) (M1 := mjTo Z) rfl ?_
            have hk111 : mjIn x3 6 = true := by
              by_cases q9 : mjIn x3 6 = true
              · exact q9
              · rw [if_neg q9] at h; cases h
            rw [if_pos hk111] at h
            refine pG_ias rfl (by rfl) hk111 (?_ : pG 109 37 [some (.ref 188), some (.ref x1), some (.int x2), some (.int x3)] [] (mjTo (zSi Z 189 (mjIx x3) 2147483647)) _)
            rw [mjLet] at h
            generalize zSi Z 189 (mjIx x3) 2147483647 = Z112 at h ⊢
            refine pG_many 2 (pc1 := 2) (L1 := [some (.ref 188), some (.ref x1), some (.int x2), some (.int (x3 + 1))]) (st1 := []) (M1 := mjTo Z112) rfl ?_
            exact f109_fastestOf_h2_ok n x1 x2 (x3 + 1) Z112 v9 Z9 h
          · rw [if_neg hc110] at h
            refine pG_iff (t := 34) rfl rfl hc110 ?_
            refine pG_many 2 (pc1 := 24) (L1 := [some (.ref 188), some (.ref x1), some (.int x2), some (.int x3)]) (st1 := [.int x3, .ref x1, .int x3, .ref 189]) (M1 := mjTo Z) rfl ?_
            cases hq113 : f8_runner x1 x3 Z with
            | none => rw [hq113] at h; cases h
            | some v114 =>
              rw [hq113, mjBp_some] at h
              refine pG_callV (k2 := 8) (As := [.ref x1, .int x3]) (rest := [.int x3, .ref 189]) rfl rfl rfl rfl rfl (mjRcv_is hk106 (by decide)) (by decide) (f8_runner_ok hq113) ?_
              rintro r9 M9 ⟨rfl, rfl⟩
              show pG 109 27 [some (.ref 188), some (.ref x1), some (.int x2), some (.int x3)] [.ref v114, .int x3, .ref 189] (mjTo Z) _
              refine pG_many 1 (pc1 := 28) (L1 := [some (.ref 188), some (.ref x1), some (.int x2), some (.int x3)]) (st1 := [.int x2, .ref v114, .int x3, .ref 189]) (M1 := mjTo Z) rfl ?_
              have hk116 : mjIs v114 251 7 = true := by
                by_cases q9 : mjIs v114 251 7 = true
                · exact q9
                · rw [if_neg q9] at h; cases h
              rw [if_pos hk116] at h
              cases hq117 : f108_tenthsOf v114 x2 Z with
              | none => rw [hq117] at h; cases h
              | some v118 =>
                rw [hq117, mjBp_some] at h
                refine pG_callV (k2 := 108) (As := [.ref v114, .int x2]) (rest := [.int x3, .ref 189]) rfl rfl rfl rfl rfl (mjRcv_is hk116 (by decide)) (by decide) (f108_tenthsOf_ok hq117) ?_
                rintro r9 M9 ⟨rfl, rfl⟩
                show pG 109 31 [some (.ref 188), some (.ref x1), some (.int x2), some (.int x3)] [.int v118, .int x3, .ref 189] (mjTo Z) _
                refine pG_many 1 (pc1 := 36) (L1 := [some (.ref 188), some (.ref x1), some (.int x2), some (.int x3)]) (st1 := [.int v118, .int x3, .ref 189]) (M1 := mjTo Z) rfl ?_
                have hk120 : mjIn x3 6 = true := by
                  by_cases q9 : mjIn x3 6 = true
                  · exact q9
                  · rw [if_neg q9] at h; cases h
                rw [if_pos hk120] at h
                refine pG_ias rfl (by rfl) hk120 (?_ : pG 109 37 [some (.ref 188), some (.ref x1), some (.int x2), some (.int x3)] [] (mjTo (zSi Z 189 (mjIx x3) v118)) _)
                rw [mjLet] at h
                generalize zSi Z 189 (mjIx x3) v118 = Z121 at h ⊢
                refine pG_many 2 (pc1 := 2) (L1 := [some (.ref 188), some (.ref x1), some (.int x2), some (.int (x3 + 1))]) (st1 := []) (M1 := mjTo Z121) rfl ?_
                exact f109_fastestOf_h2_ok n x1 x2 (x3 + 1) Z121 v9 Z9 h
def f109_fastestOf (p0 : Nat) (p1 : Int32) (Z : mjZt) : Option (Int32 × mjZt) :=
  f109_fastestOf_h2 mjF p0 p1 0 Z
theorem f109_fastestOf_ok {p0 : Nat} {p1 : Int32} {Z : mjZt} {v9 : Int32} {Z9 : mjZt} (h : f109_fastestOf p0 p1 Z = some (v9, Z9)) : pG 109 0 (mjEnt [.ref 188, .ref p0, .int p1] (mjML 109)) [] (mjTo Z) (fun r M1 => r = some (.int v9) ∧ M1 = mjTo Z9) := by
  unfold f109_fastestOf at h
  show pG 109 0 [some (.ref 188), some (.ref p0), some (.int p1), none] [] (mjTo Z) _
  refine pG_many 2 (pc1 := 2) (L1 := [some (.ref 188), some (.ref p0), some (.int p1), some (.int 0)]) (st1 := []) (M1 := mjTo Z) rfl ?_
  exact f109_fastestOf_h2_ok mjF p0 p1 0 Z v9 Z9 h
def f110_sumOf_h5 : Nat → Nat → Int32 → Int32 → Int32 → mjZt → Option Int32
  | 0, _, _, _, _, _ => none
  | n + 1, x1, x2, x3, x4, Z =>
    if mjIs x1 251 2 = true then
    if mjCmp .ge x4 (Z.1 x1 5) = true then
      some x3
    else
      mjBp (f19_hasLeg x1 x4 x2 Z) fun v104 =>
      if mjCmp .eq v104 0 = true then
        f110_sumOf_h5 n x1 x2 x3 (x4 + 1) Z
      else
        mjBp (f8_runner x1 x4 Z) fun v108 =>
        if mjIs v108 251 7 = true then
        mjBp (f108_tenthsOf v108 x2 Z) fun v112 =>
        f110_sumOf_h5 n x1 x2 (x3 + v112) (x4 + 1) Z
        else none
    else none
theorem f110_sumOf_h5_ok : ∀ (n : Nat) (x1 : Nat) (x2 : Int32) (x3 : Int32) (x4 : Int32) (d0 : Option Value) (Z : mjZt) (v9 : Int32), f110_sumOf_h5 n x1 x2 x3 x4 Z = some v9 → pG 110 5 [d0, some (.ref x1), some (.int x2), some (.int x3), some (.int x4)] [] (mjTo Z) (fun r M1 => r = some (.int v9) ∧ M1 = mjTo Z)
  | 0, x1, x2, x3, x4, d0, Z, v9, h => by rw [f110_sumOf_h5] at h; cases h
  | n + 1, x1, x2, x3, x4, d0, Z, v9, h => by
      rw [f110_sumOf_h5] at h
      refine pG_many 2 (pc1 := 8) (L1 := [d0, some (.ref x1), some (.int x2), some (.int x3), some (.int x4)]) (st1 := [.ref x1, .int x4]) (M1 := mjTo Z) rfl ?_
      have hk101 : mjIs x1 251 2 = true := by
        by_cases q9 : mjIs x1 251 2 = true
        · exact q9
        · rw [if_neg q9] at h; cases h
      rw [if_pos hk101] at h
      refine pG_getI (ci := 2) (f := 5) rfl rfl (Or.inl rfl) hk101 ?_
      by_cases hc102 : mjCmp .ge x4 (Z.1 x1 5) = true
      · rw [if_pos hc102] at h
        refine pG_cmt (t := 43) rfl rfl hc102 ?_
        refine pG_many 1 (pc1 := 44) (L1 := [d0, some (.ref x1), some (.int x2), some (.int x3), some (.int x4)]) (st1 := [.int x3]) (M1 := mjTo Z) rfl ?_
        simp only [Option.some.injEq] at h
        subst h
        exact pG_ret (r := some (.int x3)) rfl ⟨rfl, rfl⟩
      · rw [if_neg hc102] at h
        refine pG_cmf (t := 43) rfl rfl hc102 ?_
        refine pG_many 3 (pc1 := 18) (L1 := [d0, some (.ref x1), some (.int x2), some (.int x3), some (.int x4)]) (st1 := [.int x2, .int x4, .ref x1]) (M1 := mjTo Z) rfl ?_
        cases hq103 : f19_hasLeg x1 x4 x2 Z with
        | none => rw [hq103] at h; cases h
        | some v104 =>
          rw [hq103, mjBp_some] at h
          refine pG_callV (k2 := 19) (As := [.ref x1, .int x4, .int x2]) (rest := []) rfl rfl rfl rfl rfl (mjRcv_is hk101 (by decide)) (by decide) (f19_hasLeg_ok hq103) ?_
          rintro r9 M9 ⟨rfl, rfl⟩
          show pG 110 21 [d0, some (.ref x1), some (.int x2), some (.int x3), some (.int x4)] [.int v104] (mjTo Z) _
          by_cases hc106 : mjCmp .eq v104 0 = true
          · rw [if_pos hc106] at h
            refine pG_ift (t := 37) rfl rfl hc106 ?_
            refine pG_many 2 (pc1 := 5) (L1 := [d0, some (.ref x1), some (.int x2), some (.int x3), some (.int (x4 + 1))]) (st1 := []) (M1 := mjTo Z) rfl ?_
            exact f110_sumOf_h5_ok n x1 x2 x3 (x4 + 1) d0 Z v9 h
          · rw [if_neg hc106] at h
            refine pG_iff (t := 37) rfl rfl hc106 ?_
            refine pG_many 3 (pc1 := 28) (L1 := [d0, some (.ref x1), some (.int x2), some (.int x3), some (.int x4)]) (st1 := [.int x4, .ref x1, .int x3]) (M1 := mjTo Z) rfl ?_
            cases hq107 : f8_runner x1 x4 Z with
            | none => rw [hq107] at h; cases h
            | some v108 =>
              rw [hq107, mjBp_some] at h
              refine pG_callV (k2 := 8) (As := [.ref x1, .int x4]) (rest := [.int x3]) rfl rfl rfl rfl rfl (mjRcv_is hk101 (by decide)) (by decide) (f8_runner_ok hq107) ?_
              rintro r9 M9 ⟨rfl, rfl⟩
              show pG 110 31 [d0, some (.ref x1), some (.int x2), some (.int x3), some (.int x4)] [.ref v108, .int x3] (mjTo Z) _
              refine pG_many 1 (pc1 := 32) (L1 := [d0, some (.ref x1), some (.int x2), some (.int x3), some (.int x4)]) (st1 := [.int x2, .ref v108, .int x3]) (M1 := mjTo Z) rfl ?_
              have hk110 : mjIs v108 251 7 = true := by
                by_cases q9 : mjIs v108 251 7 = true
                · exact q9
                · rw [if_neg q9] at h; cases h
              rw [if_pos hk110] at h
              cases hq111 : f108_tenthsOf v108 x2 Z with
              | none => rw [hq111] at h; cases h
              | some v112 =>
                rw [hq111, mjBp_some] at h
                refine pG_callV (k2 := 108) (As := [.ref v108, .int x2]) (rest := [.int x3]) rfl rfl rfl rfl rfl (mjRcv_is hk110 (by decide)) (by decide) (f108_tenthsOf_ok hq111) ?_
                rintro r9 M9 ⟨rfl, rfl⟩
                show pG 110 35 [d0, some (.ref x1), some (.int x2), some (.int x3), some (.int x4)] [.int v112, .int x3] (mjTo Z) _
                refine pG_many 4 (pc1 := 5) (L1 := [d0, some (.ref x1), some (.int x2), some (.int (x3 + v112)), some (.int (x4 + 1))]) (st1 := []) (M1 := mjTo Z) rfl ?_
                exact f110_sumOf_h5_ok n x1 x2 (x3 + v112) (x4 + 1) d0 Z v9 h
def f110_sumOf (p0 : Nat) (p1 : Int32) (Z : mjZt) : Option Int32 :=
  f110_sumOf_h5 mjF p0 p1 0 0 Z
theorem f110_sumOf_ok {p0 : Nat} {p1 : Int32} {Z : mjZt} {v9 : Int32} (h : f110_sumOf p0 p1 Z = some v9) : pG 110 0 (mjEnt [.ref 188, .ref p0, .int p1] (mjML 110)) [] (mjTo Z) (fun r M1 => r = some (.int v9) ∧ M1 = mjTo Z) := by
  unfold f110_sumOf at h
  show pG 110 0 [some (.ref 188), some (.ref p0), some (.int p1), none, none] [] (mjTo Z) _
  refine pG_many 4 (pc1 := 5) (L1 := [some (.ref 188), some (.ref p0), some (.int p1), some (.int 0), some (.int 0)]) (st1 := []) (M1 := mjTo Z) rfl ?_
  exact f110_sumOf_h5_ok mjF p0 p1 0 0 (some (.ref 188)) Z v9 h
def f113_open (p0 : Nat) (p1 : Int32) (Z : mjZt) : Option (Unit × mjZt) :=
  mjLet (zTx Z p0) fun Z101 =>
  if mjIs Z101.2.2.2 251 13 = true then
  mjLet (zSi Z101 183 1 (mjMin p1 (Int32.ofNat (mjLay Z101.2.2.2).2))) fun Z103 =>
  mjLet (zSi Z103 183 2 0) fun Z104 =>
  mjBd (f68_advance  Z104) fun _ Z107 =>
  some ((), Z107)
  else none
theorem f113_open_ok {p0 : Nat} {p1 : Int32} {Z : mjZt} {v9 : Unit} {Z9 : mjZt} (h : f113_open p0 p1 Z = some (v9, Z9)) : pG 113 0 (mjEnt [.ref 183, .ref p0, .int p1] (mjML 113)) [] (mjTo Z) (fun r M1 => r = none ∧ M1 = mjTo Z9) := by
  unfold f113_open at h
  show pG 113 0 [some (.ref 183), some (.ref p0), some (.int p1)] [] (mjTo Z) _
  refine pG_many 2 (pc1 := 2) (L1 := [some (.ref 183), some (.ref p0), some (.int p1)]) (st1 := [.ref p0, .ref 183]) (M1 := mjTo Z) rfl ?_
  refine pG_putT rfl rfl ?_
  rw [mjLet] at h
  generalize zTx Z p0 = Z101 at h ⊢
  refine pG_many 3 (pc1 := 8) (L1 := [some (.ref 183), some (.ref p0), some (.int p1)]) (st1 := [.ref 183, .int p1, .ref 183]) (M1 := mjTo Z101) rfl ?_
  refine pG_getR (ci := 9) (f := 0) (b := Z101.2.2.2) rfl rfl rfl (by rfl) rfl ?_
  have hk102 : mjIs Z101.2.2.2 251 13 = true := by
    by_cases q9 : mjIs Z101.2.2.2 251 13 = true
    · exact q9
    · rw [if_neg q9] at h; cases h
  rw [if_pos hk102] at h
  refine pG_lenS (c := 13) rfl (by decide) (by decide) hk102 ?_
  refine pG_prim (v := .int (mjMin p1 (Int32.ofNat (mjLay Z101.2.2.2).2))) rfl (by decide) rfl ?_
  refine pG_putI (ci := 9) (f := 1) rfl rfl rfl rfl (by rfl) ?_
  rw [mjLet] at h
  generalize zSi Z101 183 1 (mjMin p1 (Int32.ofNat (mjLay Z101.2.2.2).2)) = Z103 at h ⊢
  refine pG_many 2 (pc1 := 20) (L1 := [some (.ref 183), some (.ref p0), some (.int p1)]) (st1 := [.int 0, .ref 183]) (M1 := mjTo Z103) rfl ?_
  refine pG_putI (ci := 9) (f := 2) rfl rfl rfl rfl (by rfl) ?_
  rw [mjLet] at h
  generalize zSi Z103 183 2 0 = Z104 at h ⊢
  refine pG_many 1 (pc1 := 24) (L1 := [some (.ref 183), some (.ref p0), some (.int p1)]) (st1 := [.ref 183]) (M1 := mjTo Z104) rfl ?_
  cases hq105 : f68_advance  Z104 with
  | none => rw [hq105] at h; cases h
  | some w =>
    obtain ⟨v106, Z107⟩ := w
    rw [hq105, mjBd_some] at h
    refine pG_callV (k2 := 68) (As := [.ref 183]) (rest := []) rfl rfl rfl rfl rfl (by rfl) (by decide) (f68_advance_ok hq105) ?_
    rintro r9 M9 ⟨rfl, rfl⟩
    show pG 113 27 [some (.ref 183), some (.ref p0), some (.int p1)] [] (mjTo Z107) _
    simp only [Option.some.injEq, Prod.mk.injEq] at h
    obtain ⟨-, rfl⟩ := h
    exact pG_ret (r := none) rfl ⟨rfl, rfl⟩
def f114_fail (p0 : Int32) (Z : mjZt) : Option (Int32 × mjZt) :=
  if mjCmp .ne (Z.1 183 3) 3 = true then
    mjLet (zSi Z 182 5 p0) fun Z102 =>
    mjLet (zSi Z102 182 6 (Z102.1 183 4)) fun Z103 =>
    some (0, Z103)
  else
    mjLet (zSi Z 182 5 1) fun Z104 =>
    mjLet (zSi Z104 182 6 (Z104.1 183 4)) fun Z105 =>
    some (0, Z105)
theorem f114_fail_ok {p0 : Int32} {Z : mjZt} {v9 : Int32} {Z9 : mjZt} (h : f114_fail p0 Z = some (v9, Z9)) : pG 114 0 (mjEnt [.ref 182, .int p0] (mjML 114)) [] (mjTo Z) (fun r M1 => r = some (.int v9) ∧ M1 = mjTo Z9) := by
  unfold f114_fail at h
  show pG 114 0 [some (.ref 182), some (.int p0)] [] (mjTo Z) _
  refine pG_many 2 (pc1 := 2) (L1 := [some (.ref 182), some (.int p0)]) (st1 := [.ref 182, .ref 182]) (M1 := mjTo Z) rfl ?_
  refine pG_getR (ci := 6) (f := 0) (b := 183) rfl rfl rfl (by rfl) rfl ?_
  refine pG_getI (ci := 9) (f := 3) rfl rfl (Or.inl rfl) (by rfl) ?_
  refine pG_many 1 (pc1 := 9) (L1 := [some (.ref 182), some (.int p0)]) (st1 := [.int 3, .int (Z.1 183 3), .ref 182]) (M1 := mjTo Z) rfl ?_
  by_cases hc101 : mjCmp .ne (Z.1 183 3) 3 = true
  · rw [if_pos hc101] at h
    refine pG_cmt (t := 16) rfl rfl hc101 ?_
    refine pG_many 1 (pc1 := 17) (L1 := [some (.ref 182), some (.int p0)]) (st1 := [.int p0, .ref 182]) (M1 := mjTo Z) rfl ?_
    refine pG_putI (ci := 6) (f := 5) rfl rfl rfl rfl (by rfl) ?_
    rw [mjLet] at h
    generalize zSi Z 182 5 p0 = Z102 at h ⊢
    refine pG_many 2 (pc1 := 22) (L1 := [some (.ref 182), some (.int p0)]) (st1 := [.ref 182, .ref 182]) (M1 := mjTo Z102) rfl ?_
    refine pG_getR (ci := 6) (f := 0) (b := 183) rfl rfl rfl (by rfl) rfl ?_
    refine pG_getI (ci := 9) (f := 4) rfl rfl (Or.inl rfl) (by rfl) ?_
    refine pG_putI (ci := 6) (f := 6) rfl rfl rfl rfl (by rfl) ?_
    rw [mjLet] at h
    generalize zSi Z102 182 6 (Z102.1 183 4) = Z103 at h ⊢
    refine pG_many 1 (pc1 := 32) (L1 := [some (.ref 182), some (.int p0)]) (st1 := [.int 0]) (M1 := mjTo Z103) rfl ?_
    simp only [Option.some.injEq, Prod.mk.injEq] at h
    obtain ⟨rfl, rfl⟩ := h
    exact pG_ret (r := some (.int 0)) rfl ⟨rfl, rfl⟩
  · rw [if_neg hc101] at h
    refine pG_cmf (t := 16) rfl rfl hc101 ?_
    refine pG_many 2 (pc1 := 17) (L1 := [some (.ref 182), some (.int p0)]) (st1 := [.int 1, .ref 182]) (M1 := mjTo Z) rfl ?_
    refine pG_putI (ci := 6) (f := 5) rfl rfl rfl rfl (by rfl) ?_
    rw [mjLet] at h
    generalize zSi Z 182 5 1 = Z104 at h ⊢
    refine pG_many 2 (pc1 := 22) (L1 := [some (.ref 182), some (.int p0)]) (st1 := [.ref 182, .ref 182]) (M1 := mjTo Z104) rfl ?_
    refine pG_getR (ci := 6) (f := 0) (b := 183) rfl rfl rfl (by rfl) rfl ?_
    refine pG_getI (ci := 9) (f := 4) rfl rfl (Or.inl rfl) (by rfl) ?_
    refine pG_putI (ci := 6) (f := 6) rfl rfl rfl rfl (by rfl) ?_
    rw [mjLet] at h
    generalize zSi Z104 182 6 (Z104.1 183 4) = Z105 at h ⊢
    refine pG_many 1 (pc1 := 32) (L1 := [some (.ref 182), some (.int p0)]) (st1 := [.int 0]) (M1 := mjTo Z105) rfl ?_
    simp only [Option.some.injEq, Prod.mk.injEq] at h
    obtain ⟨rfl, rfl⟩ := h
    exact pG_ret (r := some (.int 0)) rfl ⟨rfl, rfl⟩
def f115_takeWord (p0 : Nat) (p1 : Int32) (Z : mjZt) : Option (Int32 × mjZt) :=
  mjBp (f51_indexIn p0 Z) fun v102 =>
  if mjCmp .eq v102 p1 = true then
    mjBd (f68_advance  Z) fun _ Z107 =>
    some (1, Z107)
  else
    mjBd (f114_fail 2 Z) fun v109 Z110 =>
    if v109 = 0 ∨ v109 = 1 then
    some (v109, Z110)
    else none
theorem f115_takeWord_ok {p0 : Nat} {p1 : Int32} {Z : mjZt} {v9 : Int32} {Z9 : mjZt} (h : f115_takeWord p0 p1 Z = some (v9, Z9)) : pG 115 0 (mjEnt [.ref 182, .ref p0, .int p1] (mjML 115)) [] (mjTo Z) (fun r M1 => r = some (.int v9) ∧ M1 = mjTo Z9) := by
  unfold f115_takeWord at h
  show pG 115 0 [some (.ref 182), some (.ref p0), some (.int p1)] [] (mjTo Z) _
  refine pG_many 1 (pc1 := 1) (L1 := [some (.ref 182), some (.ref p0), some (.int p1)]) (st1 := [.ref 182]) (M1 := mjTo Z) rfl ?_
  refine pG_getR (ci := 6) (f := 0) (b := 183) rfl rfl rfl (by rfl) rfl ?_
  refine pG_many 1 (pc1 := 5) (L1 := [some (.ref 182), some (.ref p0), some (.int p1)]) (st1 := [.ref p0, .ref 183]) (M1 := mjTo Z) rfl ?_
  cases hq101 : f51_indexIn p0 Z with
  | none => rw [hq101] at h; cases h
  | some v102 =>
    rw [hq101, mjBp_some] at h
    refine pG_callV (k2 := 51) (As := [.ref 183, .ref p0]) (rest := []) rfl rfl rfl rfl rfl (by rfl) (by decide) (f51_indexIn_ok hq101) ?_
    rintro r9 M9 ⟨rfl, rfl⟩
    show pG 115 8 [some (.ref 182), some (.ref p0), some (.int p1)] [.int v102] (mjTo Z) _
    refine pG_many 1 (pc1 := 9) (L1 := [some (.ref 182), some (.ref p0), some (.int p1)]) (st1 := [.int p1, .int v102]) (M1 := mjTo Z) rfl ?_
    by_cases hc104 : mjCmp .eq v102 p1 = true
    · rw [if_pos hc104] at h
      refine pG_cmt (t := 18) rfl rfl hc104 ?_
      refine pG_many 1 (pc1 := 19) (L1 := [some (.ref 182), some (.ref p0), some (.int p1)]) (st1 := [.ref 182]) (M1 := mjTo Z) rfl ?_
      refine pG_getR (ci := 6) (f := 0) (b := 183) rfl rfl rfl (by rfl) rfl ?_
      cases hq105 : f68_advance  Z with
      | none => rw [hq105] at h; cases h
      | some w =>
        obtain ⟨v106, Z107⟩ := w
        rw [hq105, mjBd_some] at h
        refine pG_callV (k2 := 68) (As := [.ref 183]) (rest := []) rfl rfl rfl rfl rfl (by rfl) (by decide) (f68_advance_ok hq105) ?_
        rintro r9 M9 ⟨rfl, rfl⟩
        show pG 115 25 [some (.ref 182), some (.ref p0), some (.int p1)] [] (mjTo Z107) _
        refine pG_many 1 (pc1 := 26) (L1 := [some (.ref 182), some (.ref p0), some (.int p1)]) (st1 := [.int 1]) (M1 := mjTo Z107) rfl ?_
        simp only [Option.some.injEq, Prod.mk.injEq] at h
        obtain ⟨rfl, rfl⟩ := h
        exact pG_ret (r := some (.int 1)) rfl ⟨rfl, rfl⟩
    · rw [if_neg hc104] at h
      refine pG_cmf (t := 18) rfl rfl hc104 ?_
      refine pG_many 2 (pc1 := 14) (L1 := [some (.ref 182), some (.ref p0), some (.int p1)]) (st1 := [.int 2, .ref 182]) (M1 := mjTo Z) rfl ?_
      cases hq108 : f114_fail 2 Z with
      | none => rw [hq108] at h; cases h
      | some w =>
        obtain ⟨v109, Z110⟩ := w
        rw [hq108, mjBd_some] at h
        refine pG_callV (k2 := 114) (As := [.ref 182, .int 2]) (rest := []) rfl rfl rfl rfl rfl (by rfl) (by decide) (f114_fail_ok hq108) ?_
        rintro r9 M9 ⟨rfl, rfl⟩
        show pG 115 17 [some (.ref 182), some (.ref p0), some (.int p1)] [.int v109] (mjTo Z110) _
        have hk111 : v109 = 0 ∨ v109 = 1 := by
          by_cases q9 : v109 = 0 ∨ v109 = 1
          · exact q9
          · rw [if_neg q9] at h; cases h
        rw [if_pos hk111] at h
        simp only [Option.some.injEq, Prod.mk.injEq] at h
        obtain ⟨rfl, rfl⟩ := h
        exact pG_ret (r := some (.int v109)) (mjRt1_z rfl rfl hk111) ⟨rfl, rfl⟩
def f116_takeNumber (p0 : Int32) (p1 : Int32) (Z : mjZt) : Option (Int32 × mjZt) :=
  if mjCmp .eq (Z.1 183 3) 2 = true then
    if mjCmp .lt (Z.1 183 5) p0 = true then
      mjBd (f114_fail 4 Z) fun v104 Z105 =>
      if v104 = 0 ∨ v104 = 1 then
      some (v104, Z105)
      else none
    else
      if mjCmp .le (Z.1 183 5) p1 = true then
        mjLet (zSi Z 182 4 (Z.1 183 5)) fun Z108 =>
        mjBd (f68_advance  Z108) fun _ Z111 =>
        some (1, Z111)
      else
        mjBd (f114_fail 4 Z) fun v113 Z114 =>
        if v113 = 0 ∨ v113 = 1 then
        some (v113, Z114)
        else none
  else
    mjBd (f114_fail 2 Z) fun v117 Z118 =>
    if v117 = 0 ∨ v117 = 1 then
    some (v117, Z118)
    else none
theorem f116_takeNumber_ok {p0 : Int32} {p1 : Int32} {Z : mjZt} {v9 : Int32} {Z9 : mjZt} (h : f116_takeNumber p0 p1 Z = some (v9, Z9)) : pG 116 0 (mjEnt [.ref 182, .int p0, .int p1] (mjML 116)) [] (mjTo Z) (fun r M1 => r = some (.int v9) ∧ M1 = mjTo Z9) := by
  unfold f116_takeNumber at h
  show pG 116 0 [some (.ref 182), some (.int p0), some (.int p1)] [] (mjTo Z) _
  refine pG_many 1 (pc1 := 1) (L1 := [some (.ref 182), some (.int p0), some (.int p1)]) (st1 := [.ref 182]) (M1 := mjTo Z) rfl ?_
  refine pG_getR (ci := 6) (f := 0) (b := 183) rfl rfl rfl (by rfl) rfl ?_
  refine pG_getI (ci := 9) (f := 3) rfl rfl (Or.inl rfl) (by rfl) ?_
  refine pG_many 1 (pc1 := 8) (L1 := [some (.ref 182), some (.int p0), some (.int p1)]) (st1 := [.int 2, .int (Z.1 183 3)]) (M1 := mjTo Z) rfl ?_
  by_cases hc101 : mjCmp .eq (Z.1 183 3) 2 = true
  · rw [if_pos hc101] at h
    refine pG_cmt (t := 17) rfl rfl hc101 ?_
    refine pG_many 1 (pc1 := 18) (L1 := [some (.ref 182), some (.int p0), some (.int p1)]) (st1 := [.ref 182]) (M1 := mjTo Z) rfl ?_
    refine pG_getR (ci := 6) (f := 0) (b := 183) rfl rfl rfl (by rfl) rfl ?_
    refine pG_getI (ci := 9) (f := 5) rfl rfl (Or.inl rfl) (by rfl) ?_
    refine pG_many 1 (pc1 := 25) (L1 := [some (.ref 182), some (.int p0), some (.int p1)]) (st1 := [.int p0, .int (Z.1 183 5)]) (M1 := mjTo Z) rfl ?_
    by_cases hc102 : mjCmp .lt (Z.1 183 5) p0 = true
    · rw [if_pos hc102] at h
      refine pG_cmt (t := 39) rfl rfl hc102 ?_
      refine pG_many 2 (pc1 := 41) (L1 := [some (.ref 182), some (.int p0), some (.int p1)]) (st1 := [.int 4, .ref 182]) (M1 := mjTo Z) rfl ?_
      cases hq103 : f114_fail 4 Z with
      | none => rw [hq103] at h; cases h
      | some w =>
        obtain ⟨v104, Z105⟩ := w
        rw [hq103, mjBd_some] at h
        refine pG_callV (k2 := 114) (As := [.ref 182, .int 4]) (rest := []) rfl rfl rfl rfl rfl (by rfl) (by decide) (f114_fail_ok hq103) ?_
        rintro r9 M9 ⟨rfl, rfl⟩
        show pG 116 44 [some (.ref 182), some (.int p0), some (.int p1)] [.int v104] (mjTo Z105) _
        have hk106 : v104 = 0 ∨ v104 = 1 := by
          by_cases q9 : v104 = 0 ∨ v104 = 1
          · exact q9
          · rw [if_neg q9] at h; cases h
        rw [if_pos hk106] at h
        simp only [Option.some.injEq, Prod.mk.injEq] at h
        obtain ⟨rfl, rfl⟩ := h
        exact pG_ret (r := some (.int v104)) (mjRt1_z rfl rfl hk106) ⟨rfl, rfl⟩
    · rw [if_neg hc102] at h
      refine pG_cmf (t := 39) rfl rfl hc102 ?_
      refine pG_many 1 (pc1 := 29) (L1 := [some (.ref 182), some (.int p0), some (.int p1)]) (st1 := [.ref 182]) (M1 := mjTo Z) rfl ?_
      refine pG_getR (ci := 6) (f := 0) (b := 183) rfl rfl rfl (by rfl) rfl ?_
      refine pG_getI (ci := 9) (f := 5) rfl rfl (Or.inl rfl) (by rfl) ?_
      refine pG_many 1 (pc1 := 36) (L1 := [some (.ref 182), some (.int p0), some (.int p1)]) (st1 := [.int p1, .int (Z.1 183 5)]) (M1 := mjTo Z) rfl ?_
      by_cases hc107 : mjCmp .le (Z.1 183 5) p1 = true
      · rw [if_pos hc107] at h
        refine pG_cmt (t := 45) rfl rfl hc107 ?_
        refine pG_many 2 (pc1 := 47) (L1 := [some (.ref 182), some (.int p0), some (.int p1)]) (st1 := [.ref 182, .ref 182]) (M1 := mjTo Z) rfl ?_
        refine pG_getR (ci := 6) (f := 0) (b := 183) rfl rfl rfl (by rfl) rfl ?_
        refine pG_getI (ci := 9) (f := 5) rfl rfl (Or.inl rfl) (by rfl) ?_
        refine pG_putI (ci := 6) (f := 4) rfl rfl rfl rfl (by rfl) ?_
        rw [mjLet] at h
        generalize zSi Z 182 4 (Z.1 183 5) = Z108 at h ⊢
        refine pG_many 1 (pc1 := 57) (L1 := [some (.ref 182), some (.int p0), some (.int p1)]) (st1 := [.ref 182]) (M1 := mjTo Z108) rfl ?_
        refine pG_getR (ci := 6) (f := 0) (b := 183) rfl rfl rfl (by rfl) rfl ?_
        cases hq109 : f68_advance  Z108 with
        | none => rw [hq109] at h; cases h
        | some w =>
          obtain ⟨v110, Z111⟩ := w
          rw [hq109, mjBd_some] at h
          refine pG_callV (k2 := 68) (As := [.ref 183]) (rest := []) rfl rfl rfl rfl rfl (by rfl) (by decide) (f68_advance_ok hq109) ?_
          rintro r9 M9 ⟨rfl, rfl⟩
          show pG 116 63 [some (.ref 182), some (.int p0), some (.int p1)] [] (mjTo Z111) _
          refine pG_many 1 (pc1 := 64) (L1 := [some (.ref 182), some (.int p0), some (.int p1)]) (st1 := [.int 1]) (M1 := mjTo Z111) rfl ?_
          simp only [Option.some.injEq, Prod.mk.injEq] at h
          obtain ⟨rfl, rfl⟩ := h
          exact pG_ret (r := some (.int 1)) rfl ⟨rfl, rfl⟩
      · rw [if_neg hc107] at h
        refine pG_cmf (t := 45) rfl rfl hc107 ?_
        refine pG_many 2 (pc1 := 41) (L1 := [some (.ref 182), some (.int p0), some (.int p1)]) (st1 := [.int 4, .ref 182]) (M1 := mjTo Z) rfl ?_
        cases hq112 : f114_fail 4 Z with
        | none => rw [hq112] at h; cases h
        | some w =>
          obtain ⟨v113, Z114⟩ := w
          rw [hq112, mjBd_some] at h
          refine pG_callV (k2 := 114) (As := [.ref 182, .int 4]) (rest := []) rfl rfl rfl rfl rfl (by rfl) (by decide) (f114_fail_ok hq112) ?_
          rintro r9 M9 ⟨rfl, rfl⟩
          show pG 116 44 [some (.ref 182), some (.int p0), some (.int p1)] [.int v113] (mjTo Z114) _
          have hk115 : v113 = 0 ∨ v113 = 1 := by
            by_cases q9 : v113 = 0 ∨ v113 = 1
            · exact q9
            · rw [if_neg q9] at h; cases h
          rw [if_pos hk115] at h
          simp only [Option.some.injEq, Prod.mk.injEq] at h
          obtain ⟨rfl, rfl⟩ := h
          exact pG_ret (r := some (.int v113)) (mjRt1_z rfl rfl hk115) ⟨rfl, rfl⟩
  · rw [if_neg hc101] at h
    refine pG_cmf (t := 17) rfl rfl hc101 ?_
    refine pG_many 2 (pc1 := 13) (L1 := [some (.ref 182), some (.int p0), some (.int p1)]) (st1 := [.int 2, .ref 182]) (M1 := mjTo Z) rfl ?_
    cases hq116 : f114_fail 2 Z with
    | none => rw [hq116] at h; cases h
    | some w =>
      obtain ⟨v117, Z118⟩ := w
      rw [hq116, mjBd_some] at h
      refine pG_callV (k2 := 114) (As := [.ref 182, .int 2]) (rest := []) rfl rfl rfl rfl rfl (by rfl) (by decide) (f114_fail_ok hq116) ?_
      rintro r9 M9 ⟨rfl, rfl⟩
      show pG 116 16 [some (.ref 182), some (.int p0), some (.int p1)] [.int v117] (mjTo Z118) _
      have hk119 : v117 = 0 ∨ v117 = 1 := by
        by_cases q9 : v117 = 0 ∨ v117 = 1
        · exact q9
        · rw [if_neg q9] at h; cases h
      rw [if_pos hk119] at h
      simp only [Option.some.injEq, Prod.mk.injEq] at h
      obtain ⟨rfl, rfl⟩ := h
      exact pG_ret (r := some (.int v117)) (mjRt1_z rfl rfl hk119) ⟨rfl, rfl⟩
def f117_takeSign (p0 : Int32) (Z : mjZt) : Option (Int32 × mjZt) :=
  if mjCmp .eq (Z.1 183 3) p0 = true then
    mjBd (f68_advance  Z) fun _ Z104 =>
    some (1, Z104)
  else
    mjBd (f114_fail 2 Z) fun v106 Z107 =>
    if v106 = 0 ∨ v106 = 1 then
    some (v106, Z107)
    else none
theorem f117_takeSign_ok {p0 : Int32} {Z : mjZt} {v9 : Int32} {Z9 : mjZt} (h : f117_takeSign p0 Z = some (v9, Z9)) : pG 117 0 (mjEnt [.ref 182, .int p0] (mjML 117)) [] (mjTo Z) (fun r M1 => r = some (.int v9) ∧ M1 = mjTo Z9) := by
  unfold f117_takeSign at h
  show pG 117 0 [some (.ref 182), some (.int p0)] [] (mjTo Z) _
  refine pG_many 1 (pc1 := 1) (L1 := [some (.ref 182), some (.int p0)]) (st1 := [.ref 182]) (M1 := mjTo Z) rfl ?_
  refine pG_getR (ci := 6) (f := 0) (b := 183) rfl rfl rfl (by rfl) rfl ?_
  refine pG_getI (ci := 9) (f := 3) rfl rfl (Or.inl rfl) (by rfl) ?_
  refine pG_many 1 (pc1 := 8) (L1 := [some (.ref 182), some (.int p0)]) (st1 := [.int p0, .int (Z.1 183 3)]) (M1 := mjTo Z) rfl ?_
  by_cases hc101 : mjCmp .eq (Z.1 183 3) p0 = true
  · rw [if_pos hc101] at h
    refine pG_cmt (t := 17) rfl rfl hc101 ?_
    refine pG_many 1 (pc1 := 18) (L1 := [some (.ref 182), some (.int p0)]) (st1 := [.ref 182]) (M1 := mjTo Z) rfl ?_
    refine pG_getR (ci := 6) (f := 0) (b := 183) rfl rfl rfl (by rfl) rfl ?_
    cases hq102 : f68_advance  Z with
    | none => rw [hq102] at h; cases h
    | some w =>
      obtain ⟨v103, Z104⟩ := w
      rw [hq102, mjBd_some] at h
      refine pG_callV (k2 := 68) (As := [.ref 183]) (rest := []) rfl rfl rfl rfl rfl (by rfl) (by decide) (f68_advance_ok hq102) ?_
      rintro r9 M9 ⟨rfl, rfl⟩
      show pG 117 24 [some (.ref 182), some (.int p0)] [] (mjTo Z104) _
      refine pG_many 1 (pc1 := 25) (L1 := [some (.ref 182), some (.int p0)]) (st1 := [.int 1]) (M1 := mjTo Z104) rfl ?_
      simp only [Option.some.injEq, Prod.mk.injEq] at h
      obtain ⟨rfl, rfl⟩ := h
      exact pG_ret (r := some (.int 1)) rfl ⟨rfl, rfl⟩
  · rw [if_neg hc101] at h
    refine pG_cmf (t := 17) rfl rfl hc101 ?_
    refine pG_many 2 (pc1 := 13) (L1 := [some (.ref 182), some (.int p0)]) (st1 := [.int 2, .ref 182]) (M1 := mjTo Z) rfl ?_
    cases hq105 : f114_fail 2 Z with
    | none => rw [hq105] at h; cases h
    | some w =>
      obtain ⟨v106, Z107⟩ := w
      rw [hq105, mjBd_some] at h
      refine pG_callV (k2 := 114) (As := [.ref 182, .int 2]) (rest := []) rfl rfl rfl rfl rfl (by rfl) (by decide) (f114_fail_ok hq105) ?_
      rintro r9 M9 ⟨rfl, rfl⟩
      show pG 117 16 [some (.ref 182), some (.int p0)] [.int v106] (mjTo Z107) _
      have hk108 : v106 = 0 ∨ v106 = 1 := by
        by_cases q9 : v106 = 0 ∨ v106 = 1
        · exact q9
        · rw [if_neg q9] at h; cases h
      rw [if_pos hk108] at h
      simp only [Option.some.injEq, Prod.mk.injEq] at h
      obtain ⟨rfl, rfl⟩ := h
      exact pG_ret (r := some (.int v106)) (mjRt1_z rfl rfl hk108) ⟨rfl, rfl⟩
def f118_readTrack (p0 : Nat) (Z : mjZt) : Option (Int32 × mjZt) :=
  mjBd (f115_takeWord 1000002 0 Z) fun v102 Z103 =>
  if mjCmp .eq v102 0 = true then
    some (0, Z103)
  else
    mjBd (f116_takeNumber 2 6 Z103) fun v106 Z107 =>
    if mjCmp .ne v106 0 = true then
      if mjIs p0 251 2 = true then
      mjLet (zSi Z107 p0 0 (Z107.1 182 4)) fun Z110 =>
      mjBd (f116_takeNumber 50 400 Z110) fun v112 Z113 =>
      if mjCmp .ne v112 0 = true then
        mjLet (zSi Z113 p0 1 (Z113.1 182 4)) fun Z115 =>
        mjBd (f116_takeNumber 0 20 Z115) fun v117 Z118 =>
        if mjCmp .ne v117 0 = true then
          mjLet (zSi Z118 p0 2 (Z118.1 182 4)) fun Z120 =>
          mjBd (f116_takeNumber 0 20 Z120) fun v122 Z123 =>
          if mjCmp .ne v122 0 = true then
            mjLet (zSi Z123 p0 3 (Z123.1 182 4)) fun Z125 =>
            mjBd (f116_takeNumber 0 (Z125.1 p0 1) Z125) fun v127 Z128 =>
            if mjCmp .ne v127 0 = true then
              mjLet (zSi Z128 p0 4 (Z128.1 182 4)) fun Z130 =>
              mjBd (f117_takeSign 59 Z130) fun v132 Z133 =>
              if v132 = 0 ∨ v132 = 1 then
              some (v132, Z133)
              else none
            else
              some (0, Z128)
          else
            some (0, Z123)
        else
          some (0, Z118)
      else
        some (0, Z113)
      else none
    else
      some (0, Z107)
theorem f118_readTrack_ok {p0 : Nat} {Z : mjZt} {v9 : Int32} {Z9 : mjZt} (h : f118_readTrack p0 Z = some (v9, Z9)) : pG 118 0 (mjEnt [.ref 182, .ref p0] (mjML 118)) [] (mjTo Z) (fun r M1 => r = some (.int v9) ∧ M1 = mjTo Z9) := by
  unfold f118_readTrack at h
  show pG 118 0 [some (.ref 182), some (.ref p0)] [] (mjTo Z) _
  refine pG_many 3 (pc1 := 4) (L1 := [some (.ref 182), some (.ref p0)]) (st1 := [.int 0, .ref 1000002, .ref 182]) (M1 := mjTo Z) rfl ?_
  cases hq101 : f115_takeWord 1000002 0 Z with
  | none => rw [hq101] at h; cases h
  | some w =>
    obtain ⟨v102, Z103⟩ := w
    rw [hq101, mjBd_some] at h
    refine pG_callV (k2 := 115) (As := [.ref 182, .ref 1000002, .int 0]) (rest := []) rfl rfl rfl rfl rfl (by rfl) (by decide) (f115_takeWord_ok hq101) ?_
    rintro r9 M9 ⟨rfl, rfl⟩
    show pG 118 7 [some (.ref 182), some (.ref p0)] [.int v102] (mjTo Z103) _
    by_cases hc104 : mjCmp .eq v102 0 = true
    · rw [if_pos hc104] at h
      refine pG_ift (t := 20) rfl rfl hc104 ?_
      refine pG_many 1 (pc1 := 21) (L1 := [some (.ref 182), some (.ref p0)]) (st1 := [.int 0]) (M1 := mjTo Z103) rfl ?_
      simp only [Option.some.injEq, Prod.mk.injEq] at h
      obtain ⟨rfl, rfl⟩ := h
      exact pG_ret (r := some (.int 0)) rfl ⟨rfl, rfl⟩
    · rw [if_neg hc104] at h
      refine pG_iff (t := 20) rfl rfl hc104 ?_
      refine pG_many 3 (pc1 := 14) (L1 := [some (.ref 182), some (.ref p0)]) (st1 := [.int 6, .int 2, .ref 182]) (M1 := mjTo Z103) rfl ?_
      cases hq105 : f116_takeNumber 2 6 Z103 with
      | none => rw [hq105] at h; cases h
      | some w =>
        obtain ⟨v106, Z107⟩ := w
        rw [hq105, mjBd_some] at h
        refine pG_callV (k2 := 116) (As := [.ref 182, .int 2, .int 6]) (rest := []) rfl rfl rfl rfl rfl (by rfl) (by decide) (f116_takeNumber_ok hq105) ?_
        rintro r9 M9 ⟨rfl, rfl⟩
        show pG 118 17 [some (.ref 182), some (.ref p0)] [.int v106] (mjTo Z107) _
        by_cases hc108 : mjCmp .ne v106 0 = true
        · rw [if_pos hc108] at h
          refine pG_ift (t := 22) rfl rfl hc108 ?_
          refine pG_many 2 (pc1 := 24) (L1 := [some (.ref 182), some (.ref p0)]) (st1 := [.ref 182, .ref p0]) (M1 := mjTo Z107) rfl ?_
          refine pG_getI (ci := 6) (f := 4) rfl rfl (Or.inl rfl) (by rfl) ?_
          have hk109 : mjIs p0 251 2 = true := by
            by_cases q9 : mjIs p0 251 2 = true
            · exact q9
            · rw [if_neg q9] at h; cases h
          rw [if_pos hk109] at h
          refine pG_putI (ci := 2) (f := 0) rfl rfl rfl rfl hk109 ?_
          rw [mjLet] at h
          generalize zSi Z107 p0 0 (Z107.1 182 4) = Z110 at h ⊢
          refine pG_many 3 (pc1 := 36) (L1 := [some (.ref 182), some (.ref p0)]) (st1 := [.int 400, .int 50, .ref 182]) (M1 := mjTo Z110) rfl ?_
          cases hq111 : f116_takeNumber 50 400 Z110 with
          | none => rw [hq111] at h; cases h
          | some w =>
            obtain ⟨v112, Z113⟩ := w
            rw [hq111, mjBd_some] at h
            refine pG_callV (k2 := 116) (As := [.ref 182, .int 50, .int 400]) (rest := []) rfl rfl rfl rfl rfl (by rfl) (by decide) (f116_takeNumber_ok hq111) ?_
            rintro r9 M9 ⟨rfl, rfl⟩
            show pG 118 39 [some (.ref 182), some (.ref p0)] [.int v112] (mjTo Z113) _
            by_cases hc114 : mjCmp .ne v112 0 = true
            · rw [if_pos hc114] at h
              refine pG_ift (t := 44) rfl rfl hc114 ?_
              refine pG_many 2 (pc1 := 46) (L1 := [some (.ref 182), some (.ref p0)]) (st1 := [.ref 182, .ref p0]) (M1 := mjTo Z113) rfl ?_
              refine pG_getI (ci := 6) (f := 4) rfl rfl (Or.inl rfl) (by rfl) ?_
              refine pG_putI (ci := 2) (f := 1) rfl rfl rfl rfl hk109 ?_
              rw [mjLet] at h
              generalize zSi Z113 p0 1 (Z113.1 182 4) = Z115 at h ⊢
              refine pG_many 3 (pc1 := 56) (L1 := [some (.ref 182), some (.ref p0)]) (st1 := [.int 20, .int 0, .ref 182]) (M1 := mjTo Z115) rfl ?_
              cases hq116 : f116_takeNumber 0 20 Z115 with
              | none => rw [hq116] at h; cases h
              | some w =>
                obtain ⟨v117, Z118⟩ := w
                rw [hq116, mjBd_some] at h
                refine pG_callV (k2 := 116) (As := [.ref 182, .int 0, .int 20]) (rest := []) rfl rfl rfl rfl rfl (by rfl) (by decide) (f116_takeNumber_ok hq116) ?_
                rintro r9 M9 ⟨rfl, rfl⟩
                show pG 118 59 [some (.ref 182), some (.ref p0)] [.int v117] (mjTo Z118) _
                by_cases hc119 : mjCmp .ne v117 0 = true
                · rw [if_pos hc119] at h
                  refine pG_ift (t := 64) rfl rfl hc119 ?_
                  refine pG_many 2 (pc1 := 66) (L1 := [some (.ref 182), some (.ref p0)]) (st1 := [.ref 182, .ref p0]) (M1 := mjTo Z118) rfl ?_
                  refine pG_getI (ci := 6) (f := 4) rfl rfl (Or.inl rfl) (by rfl) ?_
                  refine pG_putI (ci := 2) (f := 2) rfl rfl rfl rfl hk109 ?_
                  rw [mjLet] at h
                  generalize zSi Z118 p0 2 (Z118.1 182 4) = Z120 at h ⊢
                  refine pG_many 3 (pc1 := 76) (L1 := [some (.ref 182), some (.ref p0)]) (st1 := [.int 20, .int 0, .ref 182]) (M1 := mjTo Z120) rfl ?_
                  cases hq121 : f116_takeNumber 0 20 Z120 with
                  | none => rw [hq121] at h; cases h
                  | some w =>
                    obtain ⟨v122, Z123⟩ := w
                    rw [hq121, mjBd_some] at h
                    refine pG_callV (k2 := 116) (As := [.ref 182, .int 0, .int 20]) (rest := []) rfl rfl rfl rfl rfl (by rfl) (by decide) (f116_takeNumber_ok hq121) ?_
                    rintro r9 M9 ⟨rfl, rfl⟩
                    show pG 118 79 [some (.ref 182), some (.ref p0)] [.int v122] (mjTo Z123) _
                    by_cases hc124 : mjCmp .ne v122 0 = true
                    · rw [if_pos hc124] at h
                      refine pG_ift (t := 84) rfl rfl hc124 ?_
                      refine pG_many 2 (pc1 := 86) (L1 := [some (.ref 182), some (.ref p0)]) (st1 := [.ref 182, .ref p0]) (M1 := mjTo Z123) rfl ?_
                      refine pG_getI (ci := 6) (f := 4) rfl rfl (Or.inl rfl) (by rfl) ?_
                      refine pG_putI (ci := 2) (f := 3) rfl rfl rfl rfl hk109 ?_
                      rw [mjLet] at h
                      generalize zSi Z123 p0 3 (Z123.1 182 4) = Z125 at h ⊢
                      refine pG_many 3 (pc1 := 95) (L1 := [some (.ref 182), some (.ref p0)]) (st1 := [.ref p0, .int 0, .ref 182]) (M1 := mjTo Z125) rfl ?_
                      refine pG_getI (ci := 2) (f := 1) rfl rfl (Or.inl rfl) hk109 ?_
                      cases hq126 : f116_takeNumber 0 (Z125.1 p0 1) Z125 with
                      | none => rw [hq126] at h; cases h
                      | some w =>
                        obtain ⟨v127, Z128⟩ := w
                        rw [hq126, mjBd_some] at h
                        refine pG_callV (k2 := 116) (As := [.ref 182, .int 0, .int (Z125.1 p0 1)]) (rest := []) rfl rfl rfl rfl rfl (by rfl) (by decide) (f116_takeNumber_ok hq126) ?_
                        rintro r9 M9 ⟨rfl, rfl⟩
                        show pG 118 101 [some (.ref 182), some (.ref p0)] [.int v127] (mjTo Z128) _
                        by_cases hc129 : mjCmp .ne v127 0 = true
                        · rw [if_pos hc129] at h
                          refine pG_ift (t := 106) rfl rfl hc129 ?_
                          refine pG_many 2 (pc1 := 108) (L1 := [some (.ref 182), some (.ref p0)]) (st1 := [.ref 182, .ref p0]) (M1 := mjTo Z128) rfl ?_
                          refine pG_getI (ci := 6) (f := 4) rfl rfl (Or.inl rfl) (by rfl) ?_
                          refine pG_putI (ci := 2) (f := 4) rfl rfl rfl rfl hk109 ?_
                          rw [mjLet] at h
                          generalize zSi Z128 p0 4 (Z128.1 182 4) = Z130 at h ⊢
                          refine pG_many 2 (pc1 := 117) (L1 := [some (.ref 182), some (.ref p0)]) (st1 := [.int 59, .ref 182]) (M1 := mjTo Z130) rfl ?_
                          cases hq131 : f117_takeSign 59 Z130 with
                          | none => rw [hq131] at h; cases h
                          | some w =>
                            obtain ⟨v132, Z133⟩ := w
                            rw [hq131, mjBd_some] at h
                            refine pG_callV (k2 := 117) (As := [.ref 182, .int 59]) (rest := []) rfl rfl rfl rfl rfl (by rfl) (by decide) (f117_takeSign_ok hq131) ?_
                            rintro r9 M9 ⟨rfl, rfl⟩
                            show pG 118 120 [some (.ref 182), some (.ref p0)] [.int v132] (mjTo Z133) _
                            have hk134 : v132 = 0 ∨ v132 = 1 := by
                              by_cases q9 : v132 = 0 ∨ v132 = 1
                              · exact q9
                              · rw [if_neg q9] at h; cases h
                            rw [if_pos hk134] at h
                            simp only [Option.some.injEq, Prod.mk.injEq] at h
                            obtain ⟨rfl, rfl⟩ := h
                            exact pG_ret (r := some (.int v132)) (mjRt1_z rfl rfl hk134) ⟨rfl, rfl⟩
                        · rw [if_neg hc129] at h
                          refine pG_iff (t := 106) rfl rfl hc129 ?_
                          refine pG_many 1 (pc1 := 105) (L1 := [some (.ref 182), some (.ref p0)]) (st1 := [.int 0]) (M1 := mjTo Z128) rfl ?_
                          simp only [Option.some.injEq, Prod.mk.injEq] at h
                          obtain ⟨rfl, rfl⟩ := h
                          exact pG_ret (r := some (.int 0)) rfl ⟨rfl, rfl⟩
                    · rw [if_neg hc124] at h
                      refine pG_iff (t := 84) rfl rfl hc124 ?_
                      refine pG_many 1 (pc1 := 83) (L1 := [some (.ref 182), some (.ref p0)]) (st1 := [.int 0]) (M1 := mjTo Z123) rfl ?_
                      simp only [Option.some.injEq, Prod.mk.injEq] at h
                      obtain ⟨rfl, rfl⟩ := h
                      exact pG_ret (r := some (.int 0)) rfl ⟨rfl, rfl⟩
                · rw [if_neg hc119] at h
                  refine pG_iff (t := 64) rfl rfl hc119 ?_
                  refine pG_many 1 (pc1 := 63) (L1 := [some (.ref 182), some (.ref p0)]) (st1 := [.int 0]) (M1 := mjTo Z118) rfl ?_
                  simp only [Option.some.injEq, Prod.mk.injEq] at h
                  obtain ⟨rfl, rfl⟩ := h
                  exact pG_ret (r := some (.int 0)) rfl ⟨rfl, rfl⟩
            · rw [if_neg hc114] at h
              refine pG_iff (t := 44) rfl rfl hc114 ?_
              refine pG_many 1 (pc1 := 43) (L1 := [some (.ref 182), some (.ref p0)]) (st1 := [.int 0]) (M1 := mjTo Z113) rfl ?_
              simp only [Option.some.injEq, Prod.mk.injEq] at h
              obtain ⟨rfl, rfl⟩ := h
              exact pG_ret (r := some (.int 0)) rfl ⟨rfl, rfl⟩
        · rw [if_neg hc108] at h
          refine pG_iff (t := 22) rfl rfl hc108 ?_
          refine pG_many 1 (pc1 := 21) (L1 := [some (.ref 182), some (.ref p0)]) (st1 := [.int 0]) (M1 := mjTo Z107) rfl ?_
          simp only [Option.some.injEq, Prod.mk.injEq] at h
          obtain ⟨rfl, rfl⟩ := h
          exact pG_ret (r := some (.int 0)) rfl ⟨rfl, rfl⟩
def f119_isName  (Z : mjZt) : Option Int32 :=
  if mjCmp .ne (Z.1 183 3) 1 = true then
    some 0
  else
    mjBp (f51_indexIn 1000006 Z) fun v103 =>
    if mjCmp .ne v103 ((-1)) = true then
      some 0
    else
      mjBp (f51_indexIn 1000007 Z) fun v107 =>
      if mjCmp .ne v107 ((-1)) = true then
        some 0
      else
        mjBp (f51_indexIn 1000008 Z) fun v111 =>
        if mjCmp .ne v111 ((-1)) = true then
          some 0
        else
          mjBp (f51_indexIn 1000009 Z) fun v115 =>
          if mjCmp .ne v115 ((-1)) = true then
            some 0
          else
            some 1
theorem f119_isName_ok  {Z : mjZt} {v9 : Int32} (h : f119_isName  Z = some v9) : pG 119 0 (mjEnt [.ref 183] (mjML 119)) [] (mjTo Z) (fun r M1 => r = some (.int v9) ∧ M1 = mjTo Z) := by
  unfold f119_isName at h
  show pG 119 0 [some (.ref 183)] [] (mjTo Z) _
  refine pG_many 1 (pc1 := 1) (L1 := [some (.ref 183)]) (st1 := [.ref 183]) (M1 := mjTo Z) rfl ?_
  refine pG_getI (ci := 9) (f := 3) rfl rfl (Or.inl rfl) (by rfl) ?_
  refine pG_many 1 (pc1 := 5) (L1 := [some (.ref 183)]) (st1 := [.int 1, .int (Z.1 183 3)]) (M1 := mjTo Z) rfl ?_
  by_cases hc101 : mjCmp .ne (Z.1 183 3) 1 = true
  · rw [if_pos hc101] at h
    refine pG_cmt (t := 52) rfl rfl hc101 ?_
    refine pG_many 1 (pc1 := 53) (L1 := [some (.ref 183)]) (st1 := [.int 0]) (M1 := mjTo Z) rfl ?_
    simp only [Option.some.injEq] at h
    subst h
    exact pG_ret (r := some (.int 0)) rfl ⟨rfl, rfl⟩
  · rw [if_neg hc101] at h
    refine pG_cmf (t := 52) rfl rfl hc101 ?_
    refine pG_many 2 (pc1 := 11) (L1 := [some (.ref 183)]) (st1 := [.ref 1000006, .ref 183]) (M1 := mjTo Z) rfl ?_
    cases hq102 : f51_indexIn 1000006 Z with
    | none => rw [hq102] at h; cases h
    | some v103 =>
      rw [hq102, mjBp_some] at h
      refine pG_callV (k2 := 51) (As := [.ref 183, .ref 1000006]) (rest := []) rfl rfl rfl rfl rfl (by rfl) (by decide) (f51_indexIn_ok hq102) ?_
      rintro r9 M9 ⟨rfl, rfl⟩
      show pG 119 14 [some (.ref 183)] [.int v103] (mjTo Z) _
      refine pG_many 1 (pc1 := 15) (L1 := [some (.ref 183)]) (st1 := [.int ((-1)), .int v103]) (M1 := mjTo Z) rfl ?_
      by_cases hc105 : mjCmp .ne v103 ((-1)) = true
      · rw [if_pos hc105] at h
        refine pG_cmt (t := 52) rfl rfl hc105 ?_
        refine pG_many 1 (pc1 := 53) (L1 := [some (.ref 183)]) (st1 := [.int 0]) (M1 := mjTo Z) rfl ?_
        simp only [Option.some.injEq] at h
        subst h
        exact pG_ret (r := some (.int 0)) rfl ⟨rfl, rfl⟩
      · rw [if_neg hc105] at h
        refine pG_cmf (t := 52) rfl rfl hc105 ?_
        refine pG_many 2 (pc1 := 21) (L1 := [some (.ref 183)]) (st1 := [.ref 1000007, .ref 183]) (M1 := mjTo Z) rfl ?_
        cases hq106 : f51_indexIn 1000007 Z with
        | none => rw [hq106] at h; cases h
        | some v107 =>
          rw [hq106, mjBp_some] at h
          refine pG_callV (k2 := 51) (As := [.ref 183, .ref 1000007]) (rest := []) rfl rfl rfl rfl rfl (by rfl) (by decide) (f51_indexIn_ok hq106) ?_
          rintro r9 M9 ⟨rfl, rfl⟩
          show pG 119 24 [some (.ref 183)] [.int v107] (mjTo Z) _
          refine pG_many 1 (pc1 := 25) (L1 := [some (.ref 183)]) (st1 := [.int ((-1)), .int v107]) (M1 := mjTo Z) rfl ?_
          by_cases hc109 : mjCmp .ne v107 ((-1)) = true
          · rw [if_pos hc109] at h
            refine pG_cmt (t := 52) rfl rfl hc109 ?_
            refine pG_many 1 (pc1 := 53) (L1 := [some (.ref 183)]) (st1 := [.int 0]) (M1 := mjTo Z) rfl ?_
            simp only [Option.some.injEq] at h
            subst h
            exact pG_ret (r := some (.int 0)) rfl ⟨rfl, rfl⟩
          · rw [if_neg hc109] at h
            refine pG_cmf (t := 52) rfl rfl hc109 ?_
            refine pG_many 2 (pc1 := 31) (L1 := [some (.ref 183)]) (st1 := [.ref 1000008, .ref 183]) (M1 := mjTo Z) rfl ?_
            cases hq110 : f51_indexIn 1000008 Z with
            | none => rw [hq110] at h; cases h
            | some v111 =>
              rw [hq110, mjBp_some] at h
              refine pG_callV (k2 := 51) (As := [.ref 183, .ref 1000008]) (rest := []) rfl rfl rfl rfl rfl (by rfl) (by decide) (f51_indexIn_ok hq110) ?_
              rintro r9 M9 ⟨rfl, rfl⟩
              show pG 119 34 [some (.ref 183)] [.int v111] (mjTo Z) _
              refine pG_many 1 (pc1 := 35) (L1 := [some (.ref 183)]) (st1 := [.int ((-1)), .int v111]) (M1 := mjTo Z) rfl ?_
              by_cases hc113 : mjCmp .ne v111 ((-1)) = true
              · rw [if_pos hc113] at h
                refine pG_cmt (t := 52) rfl rfl hc113 ?_
                refine pG_many 1 (pc1 := 53) (L1 := [some (.ref 183)]) (st1 := [.int 0]) (M1 := mjTo Z) rfl ?_
                simp only [Option.some.injEq] at h
                subst h
                exact pG_ret (r := some (.int 0)) rfl ⟨rfl, rfl⟩
              · rw [if_neg hc113] at h
                refine pG_cmf (t := 52) rfl rfl hc113 ?_
                refine pG_many 2 (pc1 := 41) (L1 := [some (.ref 183)]) (st1 := [.ref 1000009, .ref 183]) (M1 := mjTo Z) rfl ?_
                cases hq114 : f51_indexIn 1000009 Z with
                | none => rw [hq114] at h; cases h
                | some v115 =>
                  rw [hq114, mjBp_some] at h
                  refine pG_callV (k2 := 51) (As := [.ref 183, .ref 1000009]) (rest := []) rfl rfl rfl rfl rfl (by rfl) (by decide) (f51_indexIn_ok hq114) ?_
                  rintro r9 M9 ⟨rfl, rfl⟩
                  show pG 119 44 [some (.ref 183)] [.int v115] (mjTo Z) _
                  refine pG_many 1 (pc1 := 45) (L1 := [some (.ref 183)]) (st1 := [.int ((-1)), .int v115]) (M1 := mjTo Z) rfl ?_
                  by_cases hc117 : mjCmp .ne v115 ((-1)) = true
                  · rw [if_pos hc117] at h
                    refine pG_cmt (t := 52) rfl rfl hc117 ?_
                    refine pG_many 1 (pc1 := 53) (L1 := [some (.ref 183)]) (st1 := [.int 0]) (M1 := mjTo Z) rfl ?_
                    simp only [Option.some.injEq] at h
                    subst h
                    exact pG_ret (r := some (.int 0)) rfl ⟨rfl, rfl⟩
                  · rw [if_neg hc117] at h
                    refine pG_cmf (t := 52) rfl rfl hc117 ?_
                    refine pG_many 2 (pc1 := 53) (L1 := [some (.ref 183)]) (st1 := [.int 1]) (M1 := mjTo Z) rfl ?_
                    simp only [Option.some.injEq] at h
                    subst h
                    exact pG_ret (r := some (.int 1)) rfl ⟨rfl, rfl⟩
def f120_readTeam_j105 (x1 : Nat) (x2 : Int64) (Z : mjZt) : Option (Int32 × mjZt) :=
  mjBd (f116_takeNumber 1 9 Z) fun v119 Z120 =>
  if mjCmp .ne v119 0 = true then
    if mjIs x1 251 2 = true then
    mjBd (f27_addTeam x1 x2 (Z120.1 182 4) Z120) fun _ Z125 =>
    some (1, Z125)
    else none
  else
    some (0, Z120)
theorem f120_readTeam_j105_ok (x1 : Nat) (x2 : Int64) (d3 : Option Value) (Z : mjZt) (v9 : Int32) (Z9 : mjZt) (h : f120_readTeam_j105 x1 x2 Z = some (v9, Z9)) : pG 120 105 [some (.ref 182), some (.ref x1), some (.long x2), d3] [] (mjTo Z) (fun r M1 => r = some (.int v9) ∧ M1 = mjTo Z9) := by
  unfold f120_readTeam_j105 at h
  refine pG_many 3 (pc1 := 109) (L1 := [some (.ref 182), some (.ref x1), some (.long x2), d3]) (st1 := [.int 9, .int 1, .ref 182]) (M1 := mjTo Z) rfl ?_
  cases hq118 : f116_takeNumber 1 9 Z with
  | none => rw [hq118] at h; cases h
  | some w =>
    obtain ⟨v119, Z120⟩ := w
    rw [hq118, mjBd_some] at h
    refine pG_callV (k2 := 116) (As := [.ref 182, .int 1, .int 9]) (rest := []) rfl rfl rfl rfl rfl (by rfl) (by decide) (f116_takeNumber_ok hq118) ?_
    rintro r9 M9 ⟨rfl, rfl⟩
    show pG 120 112 [some (.ref 182), some (.ref x1), some (.long x2), d3] [.int v119] (mjTo Z120) _
    by_cases hc121 : mjCmp .ne v119 0 = true
    · rw [if_pos hc121] at h
      refine pG_ift (t := 117) rfl rfl hc121 ?_
      refine pG_many 3 (pc1 := 120) (L1 := [some (.ref 182), some (.ref x1), some (.long x2), d3]) (st1 := [.ref 182, .long x2, .ref x1]) (M1 := mjTo Z120) rfl ?_
      refine pG_getI (ci := 6) (f := 4) rfl rfl (Or.inl rfl) (by rfl) ?_
      have hk122 : mjIs x1 251 2 = true := by
        by_cases q9 : mjIs x1 251 2 = true
        · exact q9
        · rw [if_neg q9] at h; cases h
      rw [if_pos hk122] at h
      cases hq123 : f27_addTeam x1 x2 (Z120.1 182 4) Z120 with
      | none => rw [hq123] at h; cases h
      | some w =>
        obtain ⟨v124, Z125⟩ := w
        rw [hq123, mjBd_some] at h
        refine pG_callV (k2 := 27) (As := [.ref x1, .long x2, .int (Z120.1 182 4)]) (rest := []) rfl rfl rfl rfl rfl (mjRcv_is hk122 (by decide)) (by decide) (f27_addTeam_ok hq123) ?_
        rintro r9 M9 ⟨rfl, rfl⟩
        show pG 120 126 [some (.ref 182), some (.ref x1), some (.long x2), d3] [] (mjTo Z125) _
        refine pG_many 1 (pc1 := 127) (L1 := [some (.ref 182), some (.ref x1), some (.long x2), d3]) (st1 := [.int 1]) (M1 := mjTo Z125) rfl ?_
        simp only [Option.some.injEq, Prod.mk.injEq] at h
        obtain ⟨rfl, rfl⟩ := h
        exact pG_ret (r := some (.int 1)) rfl ⟨rfl, rfl⟩
    · rw [if_neg hc121] at h
      refine pG_iff (t := 117) rfl rfl hc121 ?_
      refine pG_many 1 (pc1 := 116) (L1 := [some (.ref 182), some (.ref x1), some (.long x2), d3]) (st1 := [.int 0]) (M1 := mjTo Z120) rfl ?_
      simp only [Option.some.injEq, Prod.mk.injEq] at h
      obtain ⟨rfl, rfl⟩ := h
      exact pG_ret (r := some (.int 0)) rfl ⟨rfl, rfl⟩
def f120_readTeam (p0 : Nat) (Z : mjZt) : Option (Int32 × mjZt) :=
  if mjIs p0 251 2 = true then
  if mjCmp .lt (Z.1 p0 5) 6 = true then
    mjBd (f68_advance  Z) fun _ Z105 =>
    mjBp (f119_isName  Z105) fun v107 =>
    if mjCmp .ne v107 0 = true then
      mjBp (f26_isNameTaken p0 (Z105.2.1 183 6) Z105) fun v111 =>
      if mjCmp .eq v111 0 = true then
        mjBd (f68_advance  Z105) fun _ Z116 =>
        if mjCmp .ne (Z116.1 183 3) 2 = true then
          f120_readTeam_j105 p0 (Z105.2.1 183 6) Z116
        else
          mjBp (f24_teamInLane p0 (Z116.1 183 5) Z116) fun v127 =>
          if mjCmp .eq v127 ((-1)) = true then
            f120_readTeam_j105 p0 (Z105.2.1 183 6) Z116
          else
            mjBd (f114_fail 4 Z116) fun v131 Z132 =>
            if v131 = 0 ∨ v131 = 1 then
            some (v131, Z132)
            else none
      else
        mjBd (f114_fail 3 Z105) fun v135 Z136 =>
        if v135 = 0 ∨ v135 = 1 then
        some (v135, Z136)
        else none
    else
      mjBd (f114_fail 2 Z105) fun v139 Z140 =>
      if v139 = 0 ∨ v139 = 1 then
      some (v139, Z140)
      else none
  else
    mjBd (f114_fail 5 Z) fun v143 Z144 =>
    if v143 = 0 ∨ v143 = 1 then
    some (v143, Z144)
    else none
  else none
theorem f120_readTeam_ok {p0 : Nat} {Z : mjZt} {v9 : Int32} {Z9 : mjZt} (h : f120_readTeam p0 Z = some (v9, Z9)) : pG 120 0 (mjEnt [.ref 182, .ref p0] (mjML 120)) [] (mjTo Z) (fun r M1 => r = some (.int v9) ∧ M1 = mjTo Z9) := by
  unfold f120_readTeam at h
  show pG 120 0 [some (.ref 182), some (.ref p0), none, none] [] (mjTo Z) _
  refine pG_many 1 (pc1 := 1) (L1 := [some (.ref 182), some (.ref p0), none, none]) (st1 := [.ref p0]) (M1 := mjTo Z) rfl ?_
  have hk101 : mjIs p0 251 2 = true := by
    by_cases q9 : mjIs p0 251 2 = true
    · exact q9
    · rw [if_neg q9] at h; cases h
  rw [if_pos hk101] at h
  refine pG_getI (ci := 2) (f := 5) rfl rfl (Or.inl rfl) hk101 ?_
  refine pG_many 1 (pc1 := 6) (L1 := [some (.ref 182), some (.ref p0), none, none]) (st1 := [.int 6, .int (Z.1 p0 5)]) (M1 := mjTo Z) rfl ?_
  by_cases hc102 : mjCmp .lt (Z.1 p0 5) 6 = true
  · rw [if_pos hc102] at h
    refine pG_cmt (t := 15) rfl rfl hc102 ?_
    refine pG_many 1 (pc1 := 16) (L1 := [some (.ref 182), some (.ref p0), none, none]) (st1 := [.ref 182]) (M1 := mjTo Z) rfl ?_
    refine pG_getR (ci := 6) (f := 0) (b := 183) rfl rfl rfl (by rfl) rfl ?_
    cases hq103 : f68_advance  Z with
    | none => rw [hq103] at h; cases h
    | some w =>
      obtain ⟨v104, Z105⟩ := w
      rw [hq103, mjBd_some] at h
      refine pG_callV (k2 := 68) (As := [.ref 183]) (rest := []) rfl rfl rfl rfl rfl (by rfl) (by decide) (f68_advance_ok hq103) ?_
      rintro r9 M9 ⟨rfl, rfl⟩
      show pG 120 22 [some (.ref 182), some (.ref p0), none, none] [] (mjTo Z105) _
      refine pG_many 1 (pc1 := 23) (L1 := [some (.ref 182), some (.ref p0), none, none]) (st1 := [.ref 182]) (M1 := mjTo Z105) rfl ?_
      refine pG_getR (ci := 6) (f := 0) (b := 183) rfl rfl rfl (by rfl) rfl ?_
      cases hq106 : f119_isName  Z105 with
      | none => rw [hq106] at h; cases h
      | some v107 =>
        rw [hq106, mjBp_some] at h
        refine pG_callV (k2 := 119) (As := [.ref 183]) (rest := []) rfl rfl rfl rfl rfl (by rfl) (by decide) (f119_isName_ok hq106) ?_
        rintro r9 M9 ⟨rfl, rfl⟩
        show pG 120 29 [some (.ref 182), some (.ref p0), none, none] [.int v107] (mjTo Z105) _
        by_cases hc109 : mjCmp .ne v107 0 = true
        · rw [if_pos hc109] at h
          refine pG_ift (t := 38) rfl rfl hc109 ?_
          refine pG_many 2 (pc1 := 40) (L1 := [some (.ref 182), some (.ref p0), none, none]) (st1 := [.ref 182, .ref p0]) (M1 := mjTo Z105) rfl ?_
          refine pG_getR (ci := 6) (f := 0) (b := 183) rfl rfl rfl (by rfl) rfl ?_
          refine pG_getL (ci := 9) (f := 6) rfl rfl rfl (by rfl) ?_
          cases hq110 : f26_isNameTaken p0 (Z105.2.1 183 6) Z105 with
          | none => rw [hq110] at h; cases h
          | some v111 =>
            rw [hq110, mjBp_some] at h
            refine pG_callV (k2 := 26) (As := [.ref p0, .long (Z105.2.1 183 6)]) (rest := []) rfl rfl rfl rfl rfl (mjRcv_is hk101 (by decide)) (by decide) (f26_isNameTaken_ok hq110) ?_
            rintro r9 M9 ⟨rfl, rfl⟩
            show pG 120 49 [some (.ref 182), some (.ref p0), none, none] [.int v111] (mjTo Z105) _
            by_cases hc113 : mjCmp .eq v111 0 = true
            · rw [if_pos hc113] at h
              refine pG_ift (t := 58) rfl rfl hc113 ?_
              refine pG_many 1 (pc1 := 59) (L1 := [some (.ref 182), some (.ref p0), none, none]) (st1 := [.ref 182]) (M1 := mjTo Z105) rfl ?_
              refine pG_getR (ci := 6) (f := 0) (b := 183) rfl rfl rfl (by rfl) rfl ?_
              refine pG_getL (ci := 9) (f := 6) rfl rfl rfl (by rfl) ?_
              refine pG_many 2 (pc1 := 67) (L1 := [some (.ref 182), some (.ref p0), some (.long (Z105.2.1 183 6)), none]) (st1 := [.ref 182]) (M1 := mjTo Z105) rfl ?_
              refine pG_getR (ci := 6) (f := 0) (b := 183) rfl rfl rfl (by rfl) rfl ?_
              cases hq114 : f68_advance  Z105 with
              | none => rw [hq114] at h; cases h
              | some w =>
                obtain ⟨v115, Z116⟩ := w
                rw [hq114, mjBd_some] at h
                refine pG_callV (k2 := 68) (As := [.ref 183]) (rest := []) rfl rfl rfl rfl rfl (by rfl) (by decide) (f68_advance_ok hq114) ?_
                rintro r9 M9 ⟨rfl, rfl⟩
                show pG 120 73 [some (.ref 182), some (.ref p0), some (.long (Z105.2.1 183 6)), none] [] (mjTo Z116) _
                refine pG_many 1 (pc1 := 74) (L1 := [some (.ref 182), some (.ref p0), some (.long (Z105.2.1 183 6)), none]) (st1 := [.ref 182]) (M1 := mjTo Z116) rfl ?_
                refine pG_getR (ci := 6) (f := 0) (b := 183) rfl rfl rfl (by rfl) rfl ?_
                refine pG_getI (ci := 9) (f := 3) rfl rfl (Or.inl rfl) (by rfl) ?_
                refine pG_many 1 (pc1 := 81) (L1 := [some (.ref 182), some (.ref p0), some (.long (Z105.2.1 183 6)), none]) (st1 := [.int 2, .int (Z116.1 183 3)]) (M1 := mjTo Z116) rfl ?_
                by_cases hc117 : mjCmp .ne (Z116.1 183 3) 2 = true
                · rw [if_pos hc117] at h
                  refine pG_cmt (t := 105) rfl rfl hc117 ?_
                  exact f120_readTeam_j105_ok p0 (Z105.2.1 183 6) none Z116 v9 Z9 h
                · rw [if_neg hc117] at h
                  refine pG_cmf (t := 105) rfl rfl hc117 ?_
                  refine pG_many 2 (pc1 := 86) (L1 := [some (.ref 182), some (.ref p0), some (.long (Z105.2.1 183 6)), none]) (st1 := [.ref 182, .ref p0]) (M1 := mjTo Z116) rfl ?_
                  refine pG_getR (ci := 6) (f := 0) (b := 183) rfl rfl rfl (by rfl) rfl ?_
                  refine pG_getI (ci := 9) (f := 5) rfl rfl (Or.inl rfl) (by rfl) ?_
                  cases hq126 : f24_teamInLane p0 (Z116.1 183 5) Z116 with
                  | none => rw [hq126] at h; cases h
                  | some v127 =>
                    rw [hq126, mjBp_some] at h
                    refine pG_callV (k2 := 24) (As := [.ref p0, .int (Z116.1 183 5)]) (rest := []) rfl rfl rfl rfl rfl (mjRcv_is hk101 (by decide)) (by decide) (f24_teamInLane_ok hq126) ?_
                    rintro r9 M9 ⟨rfl, rfl⟩
                    show pG 120 95 [some (.ref 182), some (.ref p0), some (.long (Z105.2.1 183 6)), none] [.int v127] (mjTo Z116) _
                    refine pG_many 1 (pc1 := 96) (L1 := [some (.ref 182), some (.ref p0), some (.long (Z105.2.1 183 6)), none]) (st1 := [.int ((-1)), .int v127]) (M1 := mjTo Z116) rfl ?_
                    by_cases hc129 : mjCmp .eq v127 ((-1)) = true
                    · rw [if_pos hc129] at h
                      refine pG_cmt (t := 105) rfl rfl hc129 ?_
                      exact f120_readTeam_j105_ok p0 (Z105.2.1 183 6) none Z116 v9 Z9 h
                    · rw [if_neg hc129] at h
                      refine pG_cmf (t := 105) rfl rfl hc129 ?_
                      refine pG_many 2 (pc1 := 101) (L1 := [some (.ref 182), some (.ref p0), some (.long (Z105.2.1 183 6)), none]) (st1 := [.int 4, .ref 182]) (M1 := mjTo Z116) rfl ?_
                      cases hq130 : f114_fail 4 Z116 with
                      | none => rw [hq130] at h; cases h
                      | some w =>
                        obtain ⟨v131, Z132⟩ := w
                        rw [hq130, mjBd_some] at h
                        refine pG_callV (k2 := 114) (As := [.ref 182, .int 4]) (rest := []) rfl rfl rfl rfl rfl (by rfl) (by decide) (f114_fail_ok hq130) ?_
                        rintro r9 M9 ⟨rfl, rfl⟩
                        show pG 120 104 [some (.ref 182), some (.ref p0), some (.long (Z105.2.1 183 6)), none] [.int v131] (mjTo Z132) _
                        have hk133 : v131 = 0 ∨ v131 = 1 := by
                          by_cases q9 : v131 = 0 ∨ v131 = 1
                          · exact q9
                          · rw [if_neg q9] at h; cases h
                        rw [if_pos hk133] at h
                        simp only [Option.some.injEq, Prod.mk.injEq] at h
                        obtain ⟨rfl, rfl⟩ := h
                        exact pG_ret (r := some (.int v131)) (mjRt1_z rfl rfl hk133) ⟨rfl, rfl⟩
            · rw [if_neg hc113] at h
              refine pG_iff (t := 58) rfl rfl hc113 ?_
              refine pG_many 2 (pc1 := 54) (L1 := [some (.ref 182), some (.ref p0), none, none]) (st1 := [.int 3, .ref 182]) (M1 := mjTo Z105) rfl ?_
              cases hq134 : f114_fail 3 Z105 with
              | none => rw [hq134] at h; cases h
              | some w =>
                obtain ⟨v135, Z136⟩ := w
                rw [hq134, mjBd_some] at h
                refine pG_callV (k2 := 114) (As := [.ref 182, .int 3]) (rest := []) rfl rfl rfl rfl rfl (by rfl) (by decide) (f114_fail_ok hq134) ?_
                rintro r9 M9 ⟨rfl, rfl⟩
                show pG 120 57 [some (.ref 182), some (.ref p0), none, none] [.int v135] (mjTo Z136) _
                have hk137 : v135 = 0 ∨ v135 = 1 := by
                  by_cases q9 : v135 = 0 ∨ v135 = 1
                  · exact q9
                  · rw [if_neg q9] at h; cases h
                rw [if_pos hk137] at h
                simp only [Option.some.injEq, Prod.mk.injEq] at h
                obtain ⟨rfl, rfl⟩ := h
                exact pG_ret (r := some (.int v135)) (mjRt1_z rfl rfl hk137) ⟨rfl, rfl⟩
        · rw [if_neg hc109] at h
          refine pG_iff (t := 38) rfl rfl hc109 ?_
          refine pG_many 2 (pc1 := 34) (L1 := [some (.ref 182), some (.ref p0), none, none]) (st1 := [.int 2, .ref 182]) (M1 := mjTo Z105) rfl ?_
          cases hq138 : f114_fail 2 Z105 with
          | none => rw [hq138] at h; cases h
          | some w =>
            obtain ⟨v139, Z140⟩ := w
            rw [hq138, mjBd_some] at h
            refine pG_callV (k2 := 114) (As := [.ref 182, .int 2]) (rest := []) rfl rfl rfl rfl rfl (by rfl) (by decide) (f114_fail_ok hq138) ?_
            rintro r9 M9 ⟨rfl, rfl⟩
            show pG 120 37 [some (.ref 182), some (.ref p0), none, none] [.int v139] (mjTo Z140) _
            have hk141 : v139 = 0 ∨ v139 = 1 := by
              by_cases q9 : v139 = 0 ∨ v139 = 1
              · exact q9
              · rw [if_neg q9] at h; cases h
            rw [if_pos hk141] at h
            simp only [Option.some.injEq, Prod.mk.injEq] at h
            obtain ⟨rfl, rfl⟩ := h
            exact pG_ret (r := some (.int v139)) (mjRt1_z rfl rfl hk141) ⟨rfl, rfl⟩
  · rw [if_neg hc102] at h
    refine pG_cmf (t := 15) rfl rfl hc102 ?_
    refine pG_many 2 (pc1 := 11) (L1 := [some (.ref 182), some (.ref p0), none, none]) (st1 := [.int 5, .ref 182]) (M1 := mjTo Z) rfl ?_
    cases hq142 : f114_fail 5 Z with
    | none => rw [hq142] at h; cases h
    | some w =>
      obtain ⟨v143, Z144⟩ := w
      rw [hq142, mjBd_some] at h
      refine pG_callV (k2 := 114) (As := [.ref 182, .int 5]) (rest := []) rfl rfl rfl rfl rfl (by rfl) (by decide) (f114_fail_ok hq142) ?_
      rintro r9 M9 ⟨rfl, rfl⟩
      show pG 120 14 [some (.ref 182), some (.ref p0), none, none] [.int v143] (mjTo Z144) _
      have hk145 : v143 = 0 ∨ v143 = 1 := by
        by_cases q9 : v143 = 0 ∨ v143 = 1
        · exact q9
        · rw [if_neg q9] at h; cases h
      rw [if_pos hk145] at h
      simp only [Option.some.injEq, Prod.mk.injEq] at h
      obtain ⟨rfl, rfl⟩ := h
      exact pG_ret (r := some (.int v143)) (mjRt1_z rfl rfl hk145) ⟨rfl, rfl⟩
def f121_takeTeam (p0 : Nat) (p1 : Int32) (Z : mjZt) : Option (Int32 × mjZt) :=
  mjBp (f119_isName  Z) fun v102 =>
  if mjCmp .ne v102 0 = true then
    if mjIs p0 251 2 = true then
    mjBp (f25_teamOfName p0 (Z.2.1 183 6) Z) fun v107 =>
    if mjCmp .eq v107 ((-1)) = true then
      mjBd (f114_fail 3 Z) fun v111 Z112 =>
      some ((-1), Z112)
    else
      if mjCmp .ne v107 p1 = true then
        mjBd (f68_advance  Z) fun _ Z116 =>
        some (v107, Z116)
      else
        mjBd (f114_fail 3 Z) fun v118 Z119 =>
        some ((-1), Z119)
    else none
  else
    mjBd (f114_fail 2 Z) fun v121 Z122 =>
    some ((-1), Z122)
theorem f121_takeTeam_ok {p0 : Nat} {p1 : Int32} {Z : mjZt} {v9 : Int32} {Z9 : mjZt} (h : f121_takeTeam p0 p1 Z = some (v9, Z9)) : pG 121 0 (mjEnt [.ref 182, .ref p0, .int p1] (mjML 121)) [] (mjTo Z) (fun r M1 => r = some (.int v9) ∧ M1 = mjTo Z9) := by
  unfold f121_takeTeam at h
  show pG 121 0 [some (.ref 182), some (.ref p0), some (.int p1), none] [] (mjTo Z) _
  refine pG_many 1 (pc1 := 1) (L1 := [some (.ref 182), some (.ref p0), some (.int p1), none]) (st1 := [.ref 182]) (M1 := mjTo Z) rfl ?_
  refine pG_getR (ci := 6) (f := 0) (b := 183) rfl rfl rfl (by rfl) rfl ?_
  cases hq101 : f119_isName  Z with
  | none => rw [hq101] at h; cases h
  | some v102 =>
    rw [hq101, mjBp_some] at h
    refine pG_callV (k2 := 119) (As := [.ref 183]) (rest := []) rfl rfl rfl rfl rfl (by rfl) (by decide) (f119_isName_ok hq101) ?_
    rintro r9 M9 ⟨rfl, rfl⟩
    show pG 121 7 [some (.ref 182), some (.ref p0), some (.int p1), none] [.int v102] (mjTo Z) _
    by_cases hc104 : mjCmp .ne v102 0 = true
    · rw [if_pos hc104] at h
      refine pG_ift (t := 18) rfl rfl hc104 ?_
      refine pG_many 2 (pc1 := 20) (L1 := [some (.ref 182), some (.ref p0), some (.int p1), none]) (st1 := [.ref 182, .ref p0]) (M1 := mjTo Z) rfl ?_
      refine pG_getR (ci := 6) (f := 0) (b := 183) rfl rfl rfl (by rfl) rfl ?_
      refine pG_getL (ci := 9) (f := 6) rfl rfl rfl (by rfl) ?_
      have hk105 : mjIs p0 251 2 = true := by
        by_cases q9 : mjIs p0 251 2 = true
        · exact q9
        · rw [if_neg q9] at h; cases h
      rw [if_pos hk105] at h
      cases hq106 : f25_teamOfName p0 (Z.2.1 183 6) Z with
      | none => rw [hq106] at h; cases h
      | some v107 =>
        rw [hq106, mjBp_some] at h
        refine pG_callV (k2 := 25) (As := [.ref p0, .long (Z.2.1 183 6)]) (rest := []) rfl rfl rfl rfl rfl (mjRcv_is hk105 (by decide)) (by decide) (f25_teamOfName_ok hq106) ?_
        rintro r9 M9 ⟨rfl, rfl⟩
        show pG 121 29 [some (.ref 182), some (.ref p0), some (.int p1), none] [.int v107] (mjTo Z) _
        refine pG_many 3 (pc1 := 32) (L1 := [some (.ref 182), some (.ref p0), some (.int p1), some (.int v107)]) (st1 := [.int ((-1)), .int v107]) (M1 := mjTo Z) rfl ?_
        by_cases hc109 : mjCmp .eq v107 ((-1)) = true
        · rw [if_pos hc109] at h
          refine pG_cmt (t := 40) rfl rfl hc109 ?_
          refine pG_many 2 (pc1 := 42) (L1 := [some (.ref 182), some (.ref p0), some (.int p1), some (.int v107)]) (st1 := [.int 3, .ref 182]) (M1 := mjTo Z) rfl ?_
          cases hq110 : f114_fail 3 Z with
          | none => rw [hq110] at h; cases h
          | some w =>
            obtain ⟨v111, Z112⟩ := w
            rw [hq110, mjBd_some] at h
            refine pG_callV (k2 := 114) (As := [.ref 182, .int 3]) (rest := []) rfl rfl rfl rfl rfl (by rfl) (by decide) (f114_fail_ok hq110) ?_
            rintro r9 M9 ⟨rfl, rfl⟩
            show pG 121 45 [some (.ref 182), some (.ref p0), some (.int p1), some (.int v107)] [.int v111] (mjTo Z112) _
            refine pG_many 2 (pc1 := 47) (L1 := [some (.ref 182), some (.ref p0), some (.int p1), some (.int v107)]) (st1 := [.int ((-1))]) (M1 := mjTo Z112) rfl ?_
            simp only [Option.some.injEq, Prod.mk.injEq] at h
            obtain ⟨rfl, rfl⟩ := h
            exact pG_ret (r := some (.int ((-1)))) rfl ⟨rfl, rfl⟩
        · rw [if_neg hc109] at h
          refine pG_cmf (t := 40) rfl rfl hc109 ?_
          refine pG_many 2 (pc1 := 37) (L1 := [some (.ref 182), some (.ref p0), some (.int p1), some (.int v107)]) (st1 := [.int p1, .int v107]) (M1 := mjTo Z) rfl ?_
          by_cases hc113 : mjCmp .ne v107 p1 = true
          · rw [if_pos hc113] at h
            refine pG_cmt (t := 48) rfl rfl hc113 ?_
            refine pG_many 1 (pc1 := 49) (L1 := [some (.ref 182), some (.ref p0), some (.int p1), some (.int v107)]) (st1 := [.ref 182]) (M1 := mjTo Z) rfl ?_
            refine pG_getR (ci := 6) (f := 0) (b := 183) rfl rfl rfl (by rfl) rfl ?_
            cases hq114 : f68_advance  Z with
            | none => rw [hq114] at h; cases h
            | some w =>
              obtain ⟨v115, Z116⟩ := w
              rw [hq114, mjBd_some] at h
              refine pG_callV (k2 := 68) (As := [.ref 183]) (rest := []) rfl rfl rfl rfl rfl (by rfl) (by decide) (f68_advance_ok hq114) ?_
              rintro r9 M9 ⟨rfl, rfl⟩
              show pG 121 55 [some (.ref 182), some (.ref p0), some (.int p1), some (.int v107)] [] (mjTo Z116) _
              refine pG_many 1 (pc1 := 56) (L1 := [some (.ref 182), some (.ref p0), some (.int p1), some (.int v107)]) (st1 := [.int v107]) (M1 := mjTo Z116) rfl ?_
              simp only [Option.some.injEq, Prod.mk.injEq] at h
              obtain ⟨rfl, rfl⟩ := h
              exact pG_ret (r := some (.int v107)) rfl ⟨rfl, rfl⟩
          · rw [if_neg hc113] at h
            refine pG_cmf (t := 48) rfl rfl hc113 ?_
            refine pG_many 2 (pc1 := 42) (L1 := [some (.ref 182), some (.ref p0), some (.int p1), some (.int v107)]) (st1 := [.int 3, .ref 182]) (M1 := mjTo Z) rfl ?_
            cases hq117 : f114_fail 3 Z with
            | none => rw [hq117] at h; cases h
            | some w =>
              obtain ⟨v118, Z119⟩ := w
              rw [hq117, mjBd_some] at h
              refine pG_callV (k2 := 114) (As := [.ref 182, .int 3]) (rest := []) rfl rfl rfl rfl rfl (by rfl) (by decide) (f114_fail_ok hq117) ?_
              rintro r9 M9 ⟨rfl, rfl⟩
              show pG 121 45 [some (.ref 182), some (.ref p0), some (.int p1), some (.int v107)] [.int v118] (mjTo Z119) _
              refine pG_many 2 (pc1 := 47) (L1 := [some (.ref 182), some (.ref p0), some (.int p1), some (.int v107)]) (st1 := [.int ((-1))]) (M1 := mjTo Z119) rfl ?_
              simp only [Option.some.injEq, Prod.mk.injEq] at h
              obtain ⟨rfl, rfl⟩ := h
              exact pG_ret (r := some (.int ((-1)))) rfl ⟨rfl, rfl⟩
    · rw [if_neg hc104] at h
      refine pG_iff (t := 18) rfl rfl hc104 ?_
      refine pG_many 2 (pc1 := 12) (L1 := [some (.ref 182), some (.ref p0), some (.int p1), none]) (st1 := [.int 2, .ref 182]) (M1 := mjTo Z) rfl ?_
      cases hq120 : f114_fail 2 Z with
      | none => rw [hq120] at h; cases h
      | some w =>
        obtain ⟨v121, Z122⟩ := w
        rw [hq120, mjBd_some] at h
        refine pG_callV (k2 := 114) (As := [.ref 182, .int 2]) (rest := []) rfl rfl rfl rfl rfl (by rfl) (by decide) (f114_fail_ok hq120) ?_
        rintro r9 M9 ⟨rfl, rfl⟩
        show pG 121 15 [some (.ref 182), some (.ref p0), some (.int p1), none] [.int v121] (mjTo Z122) _
        refine pG_many 2 (pc1 := 17) (L1 := [some (.ref 182), some (.ref p0), some (.int p1), none]) (st1 := [.int ((-1))]) (M1 := mjTo Z122) rfl ?_
        simp only [Option.some.injEq, Prod.mk.injEq] at h
        obtain ⟨rfl, rfl⟩ := h
        exact pG_ret (r := some (.int ((-1)))) rfl ⟨rfl, rfl⟩
def f122_addLeg (a0 : Nat) (p0 : Int32) (p1 : Int32) (Z : mjZt) : Option (Unit × mjZt) :=
  if mjIs a0 251 7 = true then
  if mjCmp .ge (Z.1 a0 6) 6 = true then
    some ((), Z)
  else
    mjLet (zSi Z a0 6 ((Z.1 a0 6) + 1)) fun Z103 =>
    mjBd (f9_setLeg a0 (Z103.1 a0 6) p0 p1 Z103) fun _ Z106 =>
    some ((), Z106)
  else none
theorem f122_addLeg_ok {a0 : Nat} {p0 : Int32} {p1 : Int32} {Z : mjZt} {v9 : Unit} {Z9 : mjZt} (h : f122_addLeg a0 p0 p1 Z = some (v9, Z9)) : pG 122 0 (mjEnt [.ref a0, .int p0, .int p1] (mjML 122)) [] (mjTo Z) (fun r M1 => r = none ∧ M1 = mjTo Z9) := by
  unfold f122_addLeg at h
  show pG 122 0 [some (.ref a0), some (.int p0), some (.int p1)] [] (mjTo Z) _
  refine pG_many 1 (pc1 := 1) (L1 := [some (.ref a0), some (.int p0), some (.int p1)]) (st1 := [.ref a0]) (M1 := mjTo Z) rfl ?_
  have hk101 : mjIs a0 251 7 = true := by
    by_cases q9 : mjIs a0 251 7 = true
    · exact q9
    · rw [if_neg q9] at h; cases h
  rw [if_pos hk101] at h
  refine pG_getI (ci := 7) (f := 6) rfl rfl (Or.inl rfl) hk101 ?_
  refine pG_many 1 (pc1 := 6) (L1 := [some (.ref a0), some (.int p0), some (.int p1)]) (st1 := [.int 6, .int (Z.1 a0 6)]) (M1 := mjTo Z) rfl ?_
  by_cases hc102 : mjCmp .ge (Z.1 a0 6) 6 = true
  · rw [if_pos hc102] at h
    refine pG_cmt (t := 29) rfl rfl hc102 ?_
    simp only [Option.some.injEq, Prod.mk.injEq] at h
    obtain ⟨-, rfl⟩ := h
    exact pG_ret (r := none) rfl ⟨rfl, rfl⟩
  · rw [if_neg hc102] at h
    refine pG_cmf (t := 29) rfl rfl hc102 ?_
    refine pG_many 2 (pc1 := 11) (L1 := [some (.ref a0), some (.int p0), some (.int p1)]) (st1 := [.ref a0, .ref a0]) (M1 := mjTo Z) rfl ?_
    refine pG_getI (ci := 7) (f := 6) rfl rfl (Or.inl rfl) hk101 ?_
    refine pG_many 2 (pc1 := 16) (L1 := [some (.ref a0), some (.int p0), some (.int p1)]) (st1 := [.int ((Z.1 a0 6) + 1), .ref a0]) (M1 := mjTo Z) rfl ?_
    refine pG_putI (ci := 7) (f := 6) rfl rfl rfl rfl hk101 ?_
    rw [mjLet] at h
    generalize zSi Z a0 6 ((Z.1 a0 6) + 1) = Z103 at h ⊢
    refine pG_many 2 (pc1 := 21) (L1 := [some (.ref a0), some (.int p0), some (.int p1)]) (st1 := [.ref a0, .ref a0]) (M1 := mjTo Z103) rfl ?_
    refine pG_getI (ci := 7) (f := 6) rfl rfl (Or.inl rfl) hk101 ?_
    refine pG_many 2 (pc1 := 26) (L1 := [some (.ref a0), some (.int p0), some (.int p1)]) (st1 := [.int p1, .int p0, .int (Z103.1 a0 6), .ref a0]) (M1 := mjTo Z103) rfl ?_
    cases hq104 : f9_setLeg a0 (Z103.1 a0 6) p0 p1 Z103 with
    | none => rw [hq104] at h; cases h
    | some w =>
      obtain ⟨v105, Z106⟩ := w
      rw [hq104, mjBd_some] at h
      refine pG_callV (k2 := 9) (As := [.ref a0, .int (Z103.1 a0 6), .int p0, .int p1]) (rest := []) rfl rfl rfl rfl rfl (mjRcv_is hk101 (by decide)) (by decide) (f9_setLeg_ok hq104) ?_
      rintro r9 M9 ⟨rfl, rfl⟩
      show pG 122 29 [some (.ref a0), some (.int p0), some (.int p1)] [] (mjTo Z106) _
      simp only [Option.some.injEq, Prod.mk.injEq] at h
      obtain ⟨-, rfl⟩ := h
      exact pG_ret (r := none) rfl ⟨rfl, rfl⟩
def f123_readRuns_j122 (x1 : Nat) (x3 : Int32) (x4 : Int32) (x5 : Int32) (Z : mjZt) : Option (Int32 × mjZt) :=
  if mjIs x1 251 2 = true then
  mjBp (f8_runner x1 x3 Z) fun v121 =>
  if mjIs v121 251 7 = true then
  mjBp (f30_mostMetres x1 ((Z.1 v121 6) + 1) Z) fun v125 =>
  mjBd (f116_takeNumber 0 v125 Z) fun v128 Z129 =>
  if mjCmp .ne v128 0 = true then
    if mjCmp .eq x5 0 = true then
      mjBd (f122_addLeg v121 x4 (Z129.1 182 4) Z129) fun _ Z134 =>
      some (1, Z134)
    else
      mjBd (f122_addLeg v121 x4 (-(Z129.1 182 4)) Z129) fun _ Z137 =>
      some (1, Z137)
  else
    some (0, Z129)
  else none
  else none
theorem f123_readRuns_j122_ok (x1 : Nat) (x3 : Int32) (x4 : Int32) (x5 : Int32) (d2 d6 : Option Value) (Z : mjZt) (v9 : Int32) (Z9 : mjZt) (h : f123_readRuns_j122 x1 x3 x4 x5 Z = some (v9, Z9)) : pG 123 122 [some (.ref 182), some (.ref x1), d2, some (.int x3), some (.int x4), some (.int x5), d6] [] (mjTo Z) (fun r M1 => r = some (.int v9) ∧ M1 = mjTo Z9) := by
  unfold f123_readRuns_j122 at h
  refine pG_many 2 (pc1 := 124) (L1 := [some (.ref 182), some (.ref x1), d2, some (.int x3), some (.int x4), some (.int x5), d6]) (st1 := [.int x3, .ref x1]) (M1 := mjTo Z) rfl ?_
  have hk119 : mjIs x1 251 2 = true := by
    by_cases q9 : mjIs x1 251 2 = true
    · exact q9
    · rw [if_neg q9] at h; cases h
  rw [if_pos hk119] at h
  cases hq120 : f8_runner x1 x3 Z with
  | none => rw [hq120] at h; cases h
  | some v121 =>
    rw [hq120, mjBp_some] at h
    refine pG_callV (k2 := 8) (As := [.ref x1, .int x3]) (rest := []) rfl rfl rfl rfl rfl (mjRcv_is hk119 (by decide)) (by decide) (f8_runner_ok hq120) ?_
    rintro r9 M9 ⟨rfl, rfl⟩
    show pG 123 127 [some (.ref 182), some (.ref x1), d2, some (.int x3), some (.int x4), some (.int x5), d6] [.ref v121] (mjTo Z) _
    refine pG_many 5 (pc1 := 134) (L1 := [some (.ref 182), some (.ref x1), d2, some (.int x3), some (.int x4), some (.int x5), some (.ref v121)]) (st1 := [.ref v121, .ref x1, .int 0, .ref 182]) (M1 := mjTo Z) rfl ?_
    have hk123 : mjIs v121 251 7 = true := by
      by_cases q9 : mjIs v121 251 7 = true
      · exact q9
      · rw [if_neg q9] at h; cases h
    rw [if_pos hk123] at h
    refine pG_getI (ci := 7) (f := 6) rfl rfl (Or.inl rfl) hk123 ?_
    refine pG_many 2 (pc1 := 139) (L1 := [some (.ref 182), some (.ref x1), d2, some (.int x3), some (.int x4), some (.int x5), some (.ref v121)]) (st1 := [.int ((Z.1 v121 6) + 1), .ref x1, .int 0, .ref 182]) (M1 := mjTo Z) rfl ?_
    cases hq124 : f30_mostMetres x1 ((Z.1 v121 6) + 1) Z with
    | none => rw [hq124] at h; cases h
    | some v125 =>
      rw [hq124, mjBp_some] at h
      refine pG_callV (k2 := 30) (As := [.ref x1, .int ((Z.1 v121 6) + 1)]) (rest := [.int 0, .ref 182]) rfl rfl rfl rfl rfl (mjRcv_is hk119 (by decide)) (by decide) (f30_mostMetres_ok hq124) ?_
      rintro r9 M9 ⟨rfl, rfl⟩
      show pG 123 142 [some (.ref 182), some (.ref x1), d2, some (.int x3), some (.int x4), some (.int x5), some (.ref v121)] [.int v125, .int 0, .ref 182] (mjTo Z) _
      cases hq127 : f116_takeNumber 0 v125 Z with
      | none => rw [hq127] at h; cases h
      | some w =>
        obtain ⟨v128, Z129⟩ := w
        rw [hq127, mjBd_some] at h
        refine pG_callV (k2 := 116) (As := [.ref 182, .int 0, .int v125]) (rest := []) rfl rfl rfl rfl rfl (by rfl) (by decide) (f116_takeNumber_ok hq127) ?_
        rintro r9 M9 ⟨rfl, rfl⟩
        show pG 123 145 [some (.ref 182), some (.ref x1), d2, some (.int x3), some (.int x4), some (.int x5), some (.ref v121)] [.int v128] (mjTo Z129) _
        by_cases hc130 : mjCmp .ne v128 0 = true
        · rw [if_pos hc130] at h
          refine pG_ift (t := 150) rfl rfl hc130 ?_
          refine pG_many 3 (pc1 := 156) (L1 := [some (.ref 182), some (.ref x1), d2, some (.int x3), some (.int x4), some (.int x5), some (.ref v121)]) (st1 := [.int x5, .int x4, .ref v121]) (M1 := mjTo Z129) rfl ?_
          by_cases hc131 : mjCmp .eq x5 0 = true
          · rw [if_pos hc131] at h
            refine pG_ift (t := 167) rfl rfl hc131 ?_
            refine pG_many 1 (pc1 := 168) (L1 := [some (.ref 182), some (.ref x1), d2, some (.int x3), some (.int x4), some (.int x5), some (.ref v121)]) (st1 := [.ref 182, .int x4, .ref v121]) (M1 := mjTo Z129) rfl ?_
            refine pG_getI (ci := 6) (f := 4) rfl rfl (Or.inl rfl) (by rfl) ?_
            cases hq132 : f122_addLeg v121 x4 (Z129.1 182 4) Z129 with
            | none => rw [hq132] at h; cases h
            | some w =>
              obtain ⟨v133, Z134⟩ := w
              rw [hq132, mjBd_some] at h
              refine pG_callV (k2 := 122) (As := [.ref v121, .int x4, .int (Z129.1 182 4)]) (rest := []) rfl rfl rfl rfl rfl (mjRcv_is hk123 (by decide)) (by decide) (f122_addLeg_ok hq132) ?_
              rintro r9 M9 ⟨rfl, rfl⟩
              show pG 123 174 [some (.ref 182), some (.ref x1), d2, some (.int x3), some (.int x4), some (.int x5), some (.ref v121)] [] (mjTo Z134) _
              refine pG_many 1 (pc1 := 175) (L1 := [some (.ref 182), some (.ref x1), d2, some (.int x3), some (.int x4), some (.int x5), some (.ref v121)]) (st1 := [.int 1]) (M1 := mjTo Z134) rfl ?_
              simp only [Option.some.injEq, Prod.mk.injEq] at h
              obtain ⟨rfl, rfl⟩ := h
              exact pG_ret (r := some (.int 1)) rfl ⟨rfl, rfl⟩
          · rw [if_neg hc131] at h
            refine pG_iff (t := 167) rfl rfl hc131 ?_
            refine pG_many 1 (pc1 := 160) (L1 := [some (.ref 182), some (.ref x1), d2, some (.int x3), some (.int x4), some (.int x5), some (.ref v121)]) (st1 := [.ref 182, .int x4, .ref v121]) (M1 := mjTo Z129) rfl ?_
            refine pG_getI (ci := 6) (f := 4) rfl rfl (Or.inl rfl) (by rfl) ?_
            refine pG_many 2 (pc1 := 171) (L1 := [some (.ref 182), some (.ref x1), d2, some (.int x3), some (.int x4), some (.int x5), some (.ref v121)]) (st1 := [.int (-(Z129.1 182 4)), .int x4, .ref v121]) (M1 := mjTo Z129) rfl ?_
            cases hq135 : f122_addLeg v121 x4 (-(Z129.1 182 4)) Z129 with
            | none => rw [hq135] at h; cases h
            | some w =>
              obtain ⟨v136, Z137⟩ := w
              rw [hq135, mjBd_some] at h
              refine pG_callV (k2 := 122) (As := [.ref v121, .int x4, .int (-(Z129.1 182 4))]) (rest := []) rfl rfl rfl rfl rfl (mjRcv_is hk123 (by decide)) (by decide) (f122_addLeg_ok hq135) ?_
              rintro r9 M9 ⟨rfl, rfl⟩
              show pG 123 174 [some (.ref 182), some (.ref x1), d2, some (.int x3), some (.int x4), some (.int x5), some (.ref v121)] [] (mjTo Z137) _
              refine pG_many 1 (pc1 := 175) (L1 := [some (.ref 182), some (.ref x1), d2, some (.int x3), some (.int x4), some (.int x5), some (.ref v121)]) (st1 := [.int 1]) (M1 := mjTo Z137) rfl ?_
              simp only [Option.some.injEq, Prod.mk.injEq] at h
              obtain ⟨rfl, rfl⟩ := h
              exact pG_ret (r := some (.int 1)) rfl ⟨rfl, rfl⟩
        · rw [if_neg hc130] at h
          refine pG_iff (t := 150) rfl rfl hc130 ?_
          refine pG_many 1 (pc1 := 149) (L1 := [some (.ref 182), some (.ref x1), d2, some (.int x3), some (.int x4), some (.int x5), some (.ref v121)]) (st1 := [.int 0]) (M1 := mjTo Z129) rfl ?_
          simp only [Option.some.injEq, Prod.mk.injEq] at h
          obtain ⟨rfl, rfl⟩ := h
          exact pG_ret (r := some (.int 0)) rfl ⟨rfl, rfl⟩
def f123_readRuns_j108 (x1 : Nat) (x3 : Int32) (x4 : Int32) (s0 : Int32) (Z : mjZt) : Option (Int32 × mjZt) :=
  if mjCmp .eq s0 0 = true then
    f123_readRuns_j122 x1 x3 x4 s0 Z
  else
    mjBd (f68_advance  Z) fun _ Z140 =>
    f123_readRuns_j122 x1 x3 x4 s0 Z140
theorem f123_readRuns_j108_ok (x1 : Nat) (x3 : Int32) (x4 : Int32) (s0 : Int32) (d2 d5 d6 : Option Value) (Z : mjZt) (v9 : Int32) (Z9 : mjZt) (h : f123_readRuns_j108 x1 x3 x4 s0 Z = some (v9, Z9)) : pG 123 108 [some (.ref 182), some (.ref x1), d2, some (.int x3), some (.int x4), d5, d6] [.int s0] (mjTo Z) (fun r M1 => r = some (.int v9) ∧ M1 = mjTo Z9) := by
  unfold f123_readRuns_j108 at h
  refine pG_many 2 (pc1 := 112) (L1 := [some (.ref 182), some (.ref x1), d2, some (.int x3), some (.int x4), some (.int s0), d6]) (st1 := [.int s0]) (M1 := mjTo Z) rfl ?_
  by_cases hc118 : mjCmp .eq s0 0 = true
  · rw [if_pos hc118] at h
    refine pG_ift (t := 122) rfl rfl hc118 ?_
    exact f123_readRuns_j122_ok x1 x3 x4 s0 d2 d6 Z v9 Z9 h
  · rw [if_neg hc118] at h
    refine pG_iff (t := 122) rfl rfl hc118 ?_
    refine pG_many 1 (pc1 := 116) (L1 := [some (.ref 182), some (.ref x1), d2, some (.int x3), some (.int x4), some (.int s0), d6]) (st1 := [.ref 182]) (M1 := mjTo Z) rfl ?_
    refine pG_getR (ci := 6) (f := 0) (b := 183) rfl rfl rfl (by rfl) rfl ?_
    cases hq138 : f68_advance  Z with
    | none => rw [hq138] at h; cases h
    | some w =>
      obtain ⟨v139, Z140⟩ := w
      rw [hq138, mjBd_some] at h
      refine pG_callV (k2 := 68) (As := [.ref 183]) (rest := []) rfl rfl rfl rfl rfl (by rfl) (by decide) (f68_advance_ok hq138) ?_
      rintro r9 M9 ⟨rfl, rfl⟩
      show pG 123 122 [some (.ref 182), some (.ref x1), d2, some (.int x3), some (.int x4), some (.int s0), d6] [] (mjTo Z140) _
      exact f123_readRuns_j122_ok x1 x3 x4 s0 d2 d6 Z140 v9 Z9 h
def f123_readRuns_j59 (x1 : Nat) (Z : mjZt) : Option (Int32 × mjZt) :=
  mjBd (f121_takeTeam x1 ((-1)) Z) fun v110 Z111 =>
  if mjCmp .eq v110 ((-1)) = true then
    some (0, Z111)
  else
    mjBd (f116_takeNumber 20 999 Z111) fun v114 Z115 =>
    if mjCmp .ne v114 0 = true then
      if mjCmp .ne (Z115.1 183 3) 45 = true then
        f123_readRuns_j108 x1 v110 (Z115.1 182 4) 0 Z115
      else
        f123_readRuns_j108 x1 v110 (Z115.1 182 4) 1 Z115
    else
      some (0, Z115)
theorem f123_readRuns_j59_ok (x1 : Nat) (d2 d3 d4 d5 d6 : Option Value) (Z : mjZt) (v9 : Int32) (Z9 : mjZt) (h : f123_readRuns_j59 x1 Z = some (v9, Z9)) : pG 123 59 [some (.ref 182), some (.ref x1), d2, d3, d4, d5, d6] [] (mjTo Z) (fun r M1 => r = some (.int v9) ∧ M1 = mjTo Z9) := by
  unfold f123_readRuns_j59 at h
  refine pG_many 3 (pc1 := 62) (L1 := [some (.ref 182), some (.ref x1), d2, d3, d4, d5, d6]) (st1 := [.int ((-1)), .ref x1, .ref 182]) (M1 := mjTo Z) rfl ?_
  cases hq109 : f121_takeTeam x1 ((-1)) Z with
  | none => rw [hq109] at h; cases h
  | some w =>
    obtain ⟨v110, Z111⟩ := w
    rw [hq109, mjBd_some] at h
    refine pG_callV (k2 := 121) (As := [.ref 182, .ref x1, .int ((-1))]) (rest := []) rfl rfl rfl rfl rfl (by rfl) (by decide) (f121_takeTeam_ok hq109) ?_
    rintro r9 M9 ⟨rfl, rfl⟩
    show pG 123 65 [some (.ref 182), some (.ref x1), d2, d3, d4, d5, d6] [.int v110] (mjTo Z111) _
    refine pG_many 3 (pc1 := 68) (L1 := [some (.ref 182), some (.ref x1), (mjK1 d2), some (.int v110), d4, d5, d6]) (st1 := [.int ((-1)), .int v110]) (M1 := mjTo Z111) rfl ?_
    by_cases hc112 : mjCmp .eq v110 ((-1)) = true
    · rw [if_pos hc112] at h
      refine pG_cmt (t := 83) rfl rfl hc112 ?_
      refine pG_many 1 (pc1 := 84) (L1 := [some (.ref 182), some (.ref x1), (mjK1 d2), some (.int v110), d4, d5, d6]) (st1 := [.int 0]) (M1 := mjTo Z111) rfl ?_
      simp only [Option.some.injEq, Prod.mk.injEq] at h
      obtain ⟨rfl, rfl⟩ := h
      exact pG_ret (r := some (.int 0)) rfl ⟨rfl, rfl⟩
    · rw [if_neg hc112] at h
      refine pG_cmf (t := 83) rfl rfl hc112 ?_
      refine pG_many 3 (pc1 := 77) (L1 := [some (.ref 182), some (.ref x1), (mjK1 d2), some (.int v110), d4, d5, d6]) (st1 := [.int 999, .int 20, .ref 182]) (M1 := mjTo Z111) rfl ?_
      cases hq113 : f116_takeNumber 20 999 Z111 with
      | none => rw [hq113] at h; cases h
      | some w =>
        obtain ⟨v114, Z115⟩ := w
        rw [hq113, mjBd_some] at h
        refine pG_callV (k2 := 116) (As := [.ref 182, .int 20, .int 999]) (rest := []) rfl rfl rfl rfl rfl (by rfl) (by decide) (f116_takeNumber_ok hq113) ?_
        rintro r9 M9 ⟨rfl, rfl⟩
        show pG 123 80 [some (.ref 182), some (.ref x1), (mjK1 d2), some (.int v110), d4, d5, d6] [.int v114] (mjTo Z115) _
        by_cases hc116 : mjCmp .ne v114 0 = true
        · rw [if_pos hc116] at h
          refine pG_ift (t := 85) rfl rfl hc116 ?_
          refine pG_many 1 (pc1 := 86) (L1 := [some (.ref 182), some (.ref x1), (mjK1 d2), some (.int v110), d4, d5, d6]) (st1 := [.ref 182]) (M1 := mjTo Z115) rfl ?_
          refine pG_getI (ci := 6) (f := 4) rfl rfl (Or.inl rfl) (by rfl) ?_
          refine pG_many 2 (pc1 := 92) (L1 := [some (.ref 182), some (.ref x1), (mjK1 d2), some (.int v110), some (.int (Z115.1 182 4)), d5, d6]) (st1 := [.ref 182]) (M1 := mjTo Z115) rfl ?_
          refine pG_getR (ci := 6) (f := 0) (b := 183) rfl rfl rfl (by rfl) rfl ?_
          refine pG_getI (ci := 9) (f := 3) rfl rfl (Or.inl rfl) (by rfl) ?_
          refine pG_many 1 (pc1 := 100) (L1 := [some (.ref 182), some (.ref x1), (mjK1 d2), some (.int v110), some (.int (Z115.1 182 4)), d5, d6]) (st1 := [.int 45, .int (Z115.1 183 3)]) (M1 := mjTo Z115) rfl ?_
          by_cases hc117 : mjCmp .ne (Z115.1 183 3) 45 = true
          · rw [if_pos hc117] at h
            refine pG_cmt (t := 107) rfl rfl hc117 ?_
            refine pG_many 1 (pc1 := 108) (L1 := [some (.ref 182), some (.ref x1), (mjK1 d2), some (.int v110), some (.int (Z115.1 182 4)), d5, d6]) (st1 := [.int 0]) (M1 := mjTo Z115) rfl ?_
            exact f123_readRuns_j108_ok x1 v110 (Z115.1 182 4) 0 ((mjK1 d2)) d5 d6 Z115 v9 Z9 h
          · rw [if_neg hc117] at h
            refine pG_cmf (t := 107) rfl rfl hc117 ?_
            refine pG_many 2 (pc1 := 108) (L1 := [some (.ref 182), some (.ref x1), (mjK1 d2), some (.int v110), some (.int (Z115.1 182 4)), d5, d6]) (st1 := [.int 1]) (M1 := mjTo Z115) rfl ?_
            exact f123_readRuns_j108_ok x1 v110 (Z115.1 182 4) 1 ((mjK1 d2)) d5 d6 Z115 v9 Z9 h
        · rw [if_neg hc116] at h
          refine pG_iff (t := 85) rfl rfl hc116 ?_
          refine pG_many 1 (pc1 := 84) (L1 := [some (.ref 182), some (.ref x1), (mjK1 d2), some (.int v110), d4, d5, d6]) (st1 := [.int 0]) (M1 := mjTo Z115) rfl ?_
          simp only [Option.some.injEq, Prod.mk.injEq] at h
          obtain ⟨rfl, rfl⟩ := h
          exact pG_ret (r := some (.int 0)) rfl ⟨rfl, rfl⟩
def f123_readRuns_j32 (x1 : Nat) (s0 : Int32) (Z : mjZt) : Option (Int32 × mjZt) :=
  if mjCmp .eq s0 ((-1)) = true then
    f123_readRuns_j59 x1 Z
  else
    if mjIs x1 251 2 = true then
    mjBp (f8_runner x1 s0 Z) fun v143 =>
    if mjIs v143 251 7 = true then
    if mjCmp .lt (Z.1 v143 6) (Z.1 x1 0) = true then
      f123_readRuns_j59 x1 Z
    else
      mjBd (f114_fail 5 Z) fun v148 Z149 =>
      if v148 = 0 ∨ v148 = 1 then
      some (v148, Z149)
      else none
    else none
    else none
theorem f123_readRuns_j32_ok (x1 : Nat) (s0 : Int32) (d2 d3 d4 d5 d6 : Option Value) (Z : mjZt) (v9 : Int32) (Z9 : mjZt) (h : f123_readRuns_j32 x1 s0 Z = some (v9, Z9)) : pG 123 32 [some (.ref 182), some (.ref x1), d2, d3, d4, d5, d6] [.int s0] (mjTo Z) (fun r M1 => r = some (.int v9) ∧ M1 = mjTo Z9) := by
  unfold f123_readRuns_j32 at h
  refine pG_many 3 (pc1 := 35) (L1 := [some (.ref 182), some (.ref x1), some (.int s0), d3, d4, d5, d6]) (st1 := [.int ((-1)), .int s0]) (M1 := mjTo Z) rfl ?_
  by_cases hc108 : mjCmp .eq s0 ((-1)) = true
  · rw [if_pos hc108] at h
    refine pG_cmt (t := 59) rfl rfl hc108 ?_
    exact f123_readRuns_j59_ok x1 (some (.int s0)) d3 d4 d5 d6 Z v9 Z9 h
  · rw [if_neg hc108] at h
    refine pG_cmf (t := 59) rfl rfl hc108 ?_
    refine pG_many 2 (pc1 := 40) (L1 := [some (.ref 182), some (.ref x1), some (.int s0), d3, d4, d5, d6]) (st1 := [.int s0, .ref x1]) (M1 := mjTo Z) rfl ?_
    have hk141 : mjIs x1 251 2 = true := by
      by_cases q9 : mjIs x1 251 2 = true
      · exact q9
      · rw [if_neg q9] at h; cases h
    rw [if_pos hk141] at h
    cases hq142 : f8_runner x1 s0 Z with
    | none => rw [hq142] at h; cases h
    | some v143 =>
      rw [hq142, mjBp_some] at h
      refine pG_callV (k2 := 8) (As := [.ref x1, .int s0]) (rest := []) rfl rfl rfl rfl rfl (mjRcv_is hk141 (by decide)) (by decide) (f8_runner_ok hq142) ?_
      rintro r9 M9 ⟨rfl, rfl⟩
      show pG 123 43 [some (.ref 182), some (.ref x1), some (.int s0), d3, d4, d5, d6] [.ref v143] (mjTo Z) _
      have hk145 : mjIs v143 251 7 = true := by
        by_cases q9 : mjIs v143 251 7 = true
        · exact q9
        · rw [if_neg q9] at h; cases h
      rw [if_pos hk145] at h
      refine pG_getI (ci := 7) (f := 6) rfl rfl (Or.inl rfl) hk145 ?_
      refine pG_many 1 (pc1 := 47) (L1 := [some (.ref 182), some (.ref x1), some (.int s0), d3, d4, d5, d6]) (st1 := [.ref x1, .int (Z.1 v143 6)]) (M1 := mjTo Z) rfl ?_
      refine pG_getI (ci := 2) (f := 0) rfl rfl (Or.inl rfl) hk141 ?_
      by_cases hc146 : mjCmp .lt (Z.1 v143 6) (Z.1 x1 0) = true
      · rw [if_pos hc146] at h
        refine pG_cmt (t := 59) rfl rfl hc146 ?_
        exact f123_readRuns_j59_ok x1 (some (.int s0)) d3 d4 d5 d6 Z v9 Z9 h
      · rw [if_neg hc146] at h
        refine pG_cmf (t := 59) rfl rfl hc146 ?_
        refine pG_many 2 (pc1 := 55) (L1 := [some (.ref 182), some (.ref x1), some (.int s0), d3, d4, d5, d6]) (st1 := [.int 5, .ref 182]) (M1 := mjTo Z) rfl ?_
        cases hq147 : f114_fail 5 Z with
        | none => rw [hq147] at h; cases h
        | some w =>
          obtain ⟨v148, Z149⟩ := w
          rw [hq147, mjBd_some] at h
          refine pG_callV (k2 := 114) (As := [.ref 182, .int 5]) (rest := []) rfl rfl rfl rfl rfl (by rfl) (by decide) (f114_fail_ok hq147) ?_
          rintro r9 M9 ⟨rfl, rfl⟩
          show pG 123 58 [some (.ref 182), some (.ref x1), some (.int s0), d3, d4, d5, d6] [.int v148] (mjTo Z149) _
          have hk150 : v148 = 0 ∨ v148 = 1 := by
            by_cases q9 : v148 = 0 ∨ v148 = 1
            · exact q9
            · rw [if_neg q9] at h; cases h
          rw [if_pos hk150] at h
          simp only [Option.some.injEq, Prod.mk.injEq] at h
          obtain ⟨rfl, rfl⟩ := h
          exact pG_ret (r := some (.int v148)) (mjRt1_z rfl rfl hk150) ⟨rfl, rfl⟩
def f123_readRuns (p0 : Nat) (Z : mjZt) : Option (Int32 × mjZt) :=
  mjBd (f68_advance  Z) fun _ Z103 =>
  mjBp (f119_isName  Z103) fun v105 =>
  if mjCmp .eq v105 0 = true then
    f123_readRuns_j32 p0 ((-1)) Z103
  else
    if mjIs p0 251 2 = true then
    mjBp (f25_teamOfName p0 (Z103.2.1 183 6) Z103) fun v153 =>
    f123_readRuns_j32 p0 v153 Z103
    else none
theorem f123_readRuns_ok {p0 : Nat} {Z : mjZt} {v9 : Int32} {Z9 : mjZt} (h : f123_readRuns p0 Z = some (v9, Z9)) : pG 123 0 (mjEnt [.ref 182, .ref p0] (mjML 123)) [] (mjTo Z) (fun r M1 => r = some (.int v9) ∧ M1 = mjTo Z9) := by
  unfold f123_readRuns at h
  show pG 123 0 [some (.ref 182), some (.ref p0), none, none, none, none, none] [] (mjTo Z) _
  refine pG_many 1 (pc1 := 1) (L1 := [some (.ref 182), some (.ref p0), none, none, none, none, none]) (st1 := [.ref 182]) (M1 := mjTo Z) rfl ?_
  refine pG_getR (ci := 6) (f := 0) (b := 183) rfl rfl rfl (by rfl) rfl ?_
  cases hq101 : f68_advance  Z with
  | none => rw [hq101] at h; cases h
  | some w =>
    obtain ⟨v102, Z103⟩ := w
    rw [hq101, mjBd_some] at h
    refine pG_callV (k2 := 68) (As := [.ref 183]) (rest := []) rfl rfl rfl rfl rfl (by rfl) (by decide) (f68_advance_ok hq101) ?_
    rintro r9 M9 ⟨rfl, rfl⟩
    show pG 123 7 [some (.ref 182), some (.ref p0), none, none, none, none, none] [] (mjTo Z103) _
    refine pG_many 1 (pc1 := 8) (L1 := [some (.ref 182), some (.ref p0), none, none, none, none, none]) (st1 := [.ref 182]) (M1 := mjTo Z103) rfl ?_
    refine pG_getR (ci := 6) (f := 0) (b := 183) rfl rfl rfl (by rfl) rfl ?_
    cases hq104 : f119_isName  Z103 with
    | none => rw [hq104] at h; cases h
    | some v105 =>
      rw [hq104, mjBp_some] at h
      refine pG_callV (k2 := 119) (As := [.ref 183]) (rest := []) rfl rfl rfl rfl rfl (by rfl) (by decide) (f119_isName_ok hq104) ?_
      rintro r9 M9 ⟨rfl, rfl⟩
      show pG 123 14 [some (.ref 182), some (.ref p0), none, none, none, none, none] [.int v105] (mjTo Z103) _
      by_cases hc107 : mjCmp .eq v105 0 = true
      · rw [if_pos hc107] at h
        refine pG_ift (t := 31) rfl rfl hc107 ?_
        refine pG_many 1 (pc1 := 32) (L1 := [some (.ref 182), some (.ref p0), none, none, none, none, none]) (st1 := [.int ((-1))]) (M1 := mjTo Z103) rfl ?_
        exact f123_readRuns_j32_ok p0 ((-1)) none none none none none Z103 v9 Z9 h
      · rw [if_neg hc107] at h
        refine pG_iff (t := 31) rfl rfl hc107 ?_
        refine pG_many 2 (pc1 := 19) (L1 := [some (.ref 182), some (.ref p0), none, none, none, none, none]) (st1 := [.ref 182, .ref p0]) (M1 := mjTo Z103) rfl ?_
        refine pG_getR (ci := 6) (f := 0) (b := 183) rfl rfl rfl (by rfl) rfl ?_
        refine pG_getL (ci := 9) (f := 6) rfl rfl rfl (by rfl) ?_
        have hk151 : mjIs p0 251 2 = true := by
          by_cases q9 : mjIs p0 251 2 = true
          · exact q9
          · rw [if_neg q9] at h; cases h
        rw [if_pos hk151] at h
        cases hq152 : f25_teamOfName p0 (Z103.2.1 183 6) Z103 with
        | none => rw [hq152] at h; cases h
        | some v153 =>
          rw [hq152, mjBp_some] at h
          refine pG_callV (k2 := 25) (As := [.ref p0, .long (Z103.2.1 183 6)]) (rest := []) rfl rfl rfl rfl rfl (mjRcv_is hk151 (by decide)) (by decide) (f25_teamOfName_ok hq152) ?_
          rintro r9 M9 ⟨rfl, rfl⟩
          show pG 123 28 [some (.ref 182), some (.ref p0), none, none, none, none, none] [.int v153] (mjTo Z103) _
          refine pG_many 1 (pc1 := 32) (L1 := [some (.ref 182), some (.ref p0), none, none, none, none, none]) (st1 := [.int v153]) (M1 := mjTo Z103) rfl ?_
          exact f123_readRuns_j32_ok p0 v153 none none none none none Z103 v9 Z9 h
def f124_readAct_j84 (x1 : Nat) (x2 : Int32) (x3 : Int32) (s0 : Int32) (Z : mjZt) : Option (Int32 × mjZt) :=
  if mjCmp .ne (Z.1 182 5) 0 = true then
    some (0, Z)
  else
    mjBd (f116_takeNumber 0 9999 Z) fun v125 Z126 =>
    if mjCmp .ne v125 0 = true then
      mjBd (f116_takeNumber 0 99 Z126) fun v129 Z130 =>
      if mjCmp .ne v129 0 = true then
        if mjIs x1 251 2 = true then
        mjBd (f28_addAct x1 x2 x3 s0 (Z126.1 182 4) (Z130.1 182 4) Z130) fun _ Z135 =>
        some (1, Z135)
        else none
      else
        some (0, Z130)
    else
      some (0, Z126)
theorem f124_readAct_j84_ok (x1 : Nat) (x2 : Int32) (x3 : Int32) (s0 : Int32) (d4 d5 : Option Value) (Z : mjZt) (v9 : Int32) (Z9 : mjZt) (h : f124_readAct_j84 x1 x2 x3 s0 Z = some (v9, Z9)) : pG 124 84 [some (.ref 182), some (.ref x1), some (.int x2), some (.int x3), d4, d5] [.int s0] (mjTo Z) (fun r M1 => r = some (.int v9) ∧ M1 = mjTo Z9) := by
  unfold f124_readAct_j84 at h
  refine pG_many 2 (pc1 := 87) (L1 := [some (.ref 182), some (.ref x1), some (.int x2), some (.int x3), some (.int s0), d5]) (st1 := [.ref 182]) (M1 := mjTo Z) rfl ?_
  refine pG_getI (ci := 6) (f := 5) rfl rfl (Or.inl rfl) (by rfl) ?_
  by_cases hc123 : mjCmp .ne (Z.1 182 5) 0 = true
  · rw [if_pos hc123] at h
    refine pG_ift (t := 104) rfl rfl hc123 ?_
    refine pG_many 1 (pc1 := 105) (L1 := [some (.ref 182), some (.ref x1), some (.int x2), some (.int x3), some (.int s0), d5]) (st1 := [.int 0]) (M1 := mjTo Z) rfl ?_
    simp only [Option.some.injEq, Prod.mk.injEq] at h
    obtain ⟨rfl, rfl⟩ := h
    exact pG_ret (r := some (.int 0)) rfl ⟨rfl, rfl⟩
  · rw [if_neg hc123] at h
    refine pG_iff (t := 104) rfl rfl hc123 ?_
    refine pG_many 3 (pc1 := 98) (L1 := [some (.ref 182), some (.ref x1), some (.int x2), some (.int x3), some (.int s0), d5]) (st1 := [.int 9999, .int 0, .ref 182]) (M1 := mjTo Z) rfl ?_
    cases hq124 : f116_takeNumber 0 9999 Z with
    | none => rw [hq124] at h; cases h
    | some w =>
      obtain ⟨v125, Z126⟩ := w
      rw [hq124, mjBd_some] at h
      refine pG_callV (k2 := 116) (As := [.ref 182, .int 0, .int 9999]) (rest := []) rfl rfl rfl rfl rfl (by rfl) (by decide) (f116_takeNumber_ok hq124) ?_
      rintro r9 M9 ⟨rfl, rfl⟩
      show pG 124 101 [some (.ref 182), some (.ref x1), some (.int x2), some (.int x3), some (.int s0), d5] [.int v125] (mjTo Z126) _
      by_cases hc127 : mjCmp .ne v125 0 = true
      · rw [if_pos hc127] at h
        refine pG_ift (t := 106) rfl rfl hc127 ?_
        refine pG_many 1 (pc1 := 107) (L1 := [some (.ref 182), some (.ref x1), some (.int x2), some (.int x3), some (.int s0), d5]) (st1 := [.ref 182]) (M1 := mjTo Z126) rfl ?_
        refine pG_getI (ci := 6) (f := 4) rfl rfl (Or.inl rfl) (by rfl) ?_
        refine pG_many 4 (pc1 := 116) (L1 := [some (.ref 182), some (.ref x1), some (.int x2), some (.int x3), some (.int s0), some (.int (Z126.1 182 4))]) (st1 := [.int 99, .int 0, .ref 182]) (M1 := mjTo Z126) rfl ?_
        cases hq128 : f116_takeNumber 0 99 Z126 with
        | none => rw [hq128] at h; cases h
        | some w =>
          obtain ⟨v129, Z130⟩ := w
          rw [hq128, mjBd_some] at h
          refine pG_callV (k2 := 116) (As := [.ref 182, .int 0, .int 99]) (rest := []) rfl rfl rfl rfl rfl (by rfl) (by decide) (f116_takeNumber_ok hq128) ?_
          rintro r9 M9 ⟨rfl, rfl⟩
          show pG 124 119 [some (.ref 182), some (.ref x1), some (.int x2), some (.int x3), some (.int s0), some (.int (Z126.1 182 4))] [.int v129] (mjTo Z130) _
          by_cases hc131 : mjCmp .ne v129 0 = true
          · rw [if_pos hc131] at h
            refine pG_ift (t := 124) rfl rfl hc131 ?_
            refine pG_many 6 (pc1 := 132) (L1 := [some (.ref 182), some (.ref x1), some (.int x2), some (.int x3), some (.int s0), some (.int (Z126.1 182 4))]) (st1 := [.ref 182, .int (Z126.1 182 4), .int s0, .int x3, .int x2, .ref x1]) (M1 := mjTo Z130) rfl ?_
            refine pG_getI (ci := 6) (f := 4) rfl rfl (Or.inl rfl) (by rfl) ?_
            have hk132 : mjIs x1 251 2 = true := by
              by_cases q9 : mjIs x1 251 2 = true
              · exact q9
              · rw [if_neg q9] at h; cases h
            rw [if_pos hk132] at h
            cases hq133 : f28_addAct x1 x2 x3 s0 (Z126.1 182 4) (Z130.1 182 4) Z130 with
            | none => rw [hq133] at h; cases h
            | some w =>
              obtain ⟨v134, Z135⟩ := w
              rw [hq133, mjBd_some] at h
              refine pG_callV (k2 := 28) (As := [.ref x1, .int x2, .int x3, .int s0, .int (Z126.1 182 4), .int (Z130.1 182 4)]) (rest := []) rfl rfl rfl rfl rfl (mjRcv_is hk132 (by decide)) (by decide) (f28_addAct_ok hq133) ?_
              rintro r9 M9 ⟨rfl, rfl⟩
              show pG 124 138 [some (.ref 182), some (.ref x1), some (.int x2), some (.int x3), some (.int s0), some (.int (Z126.1 182 4))] [] (mjTo Z135) _
              refine pG_many 1 (pc1 := 139) (L1 := [some (.ref 182), some (.ref x1), some (.int x2), some (.int x3), some (.int s0), some (.int (Z126.1 182 4))]) (st1 := [.int 1]) (M1 := mjTo Z135) rfl ?_
              simp only [Option.some.injEq, Prod.mk.injEq] at h
              obtain ⟨rfl, rfl⟩ := h
              exact pG_ret (r := some (.int 1)) rfl ⟨rfl, rfl⟩
          · rw [if_neg hc131] at h
            refine pG_iff (t := 124) rfl rfl hc131 ?_
            refine pG_many 1 (pc1 := 123) (L1 := [some (.ref 182), some (.ref x1), some (.int x2), some (.int x3), some (.int s0), some (.int (Z126.1 182 4))]) (st1 := [.int 0]) (M1 := mjTo Z130) rfl ?_
            simp only [Option.some.injEq, Prod.mk.injEq] at h
            obtain ⟨rfl, rfl⟩ := h
            exact pG_ret (r := some (.int 0)) rfl ⟨rfl, rfl⟩
      · rw [if_neg hc127] at h
        refine pG_iff (t := 106) rfl rfl hc127 ?_
        refine pG_many 1 (pc1 := 105) (L1 := [some (.ref 182), some (.ref x1), some (.int x2), some (.int x3), some (.int s0), d5]) (st1 := [.int 0]) (M1 := mjTo Z126) rfl ?_
        simp only [Option.some.injEq, Prod.mk.injEq] at h
        obtain ⟨rfl, rfl⟩ := h
        exact pG_ret (r := some (.int 0)) rfl ⟨rfl, rfl⟩
def f124_readAct (p0 : Nat) (Z : mjZt) : Option (Int32 × mjZt) :=
  if mjIs p0 251 2 = true then
  if mjCmp .lt (Z.1 p0 6) 12 = true then
    mjBd (f68_advance  Z) fun _ Z105 =>
    mjBp (f51_indexIn 1000003 Z105) fun v107 =>
    if mjCmp .eq v107 ((-1)) = true then
      mjBd (f114_fail 2 Z105) fun v111 Z112 =>
      if v111 = 0 ∨ v111 = 1 then
      some (v111, Z112)
      else none
    else
      if mjCmp .ne v107 4 = true then
        mjBd (f68_advance  Z105) fun _ Z117 =>
        mjBd (f121_takeTeam p0 ((-1)) Z117) fun v119 Z120 =>
        if mjCmp .ne v119 ((-1)) = true then
          if mjCmp .ne v107 3 = true then
            f124_readAct_j84 p0 v107 v119 ((-1)) Z120
          else
            mjBd (f121_takeTeam p0 v119 Z120) fun v137 Z138 =>
            f124_readAct_j84 p0 v107 v119 v137 Z138
        else
          some (0, Z120)
      else
        mjBd (f114_fail 2 Z105) fun v140 Z141 =>
        if v140 = 0 ∨ v140 = 1 then
        some (v140, Z141)
        else none
  else
    mjBd (f114_fail 5 Z) fun v144 Z145 =>
    if v144 = 0 ∨ v144 = 1 then
    some (v144, Z145)
    else none
  else none
theorem f124_readAct_ok {p0 : Nat} {Z : mjZt} {v9 : Int32} {Z9 : mjZt} (h : f124_readAct p0 Z = some (v9, Z9)) : pG 124 0 (mjEnt [.ref 182, .ref p0] (mjML 124)) [] (mjTo Z) (fun r M1 => r = some (.int v9) ∧ M1 = mjTo Z9) := by
  unfold f124_readAct at h
  show pG 124 0 [some (.ref 182), some (.ref p0), none, none, none, none] [] (mjTo Z) _
  refine pG_many 1 (pc1 := 1) (L1 := [some (.ref 182), some (.ref p0), none, none, none, none]) (st1 := [.ref p0]) (M1 := mjTo Z) rfl ?_
  have hk101 : mjIs p0 251 2 = true := by
    by_cases q9 : mjIs p0 251 2 = true
    · exact q9
    · rw [if_neg q9] at h; cases h
  rw [if_pos hk101] at h
  refine pG_getI (ci := 2) (f := 6) rfl rfl (Or.inl rfl) hk101 ?_
  refine pG_many 1 (pc1 := 6) (L1 := [some (.ref 182), some (.ref p0), none, none, none, none]) (st1 := [.int 12, .int (Z.1 p0 6)]) (M1 := mjTo Z) rfl ?_
  by_cases hc102 : mjCmp .lt (Z.1 p0 6) 12 = true
  · rw [if_pos hc102] at h
    refine pG_cmt (t := 15) rfl rfl hc102 ?_
    refine pG_many 1 (pc1 := 16) (L1 := [some (.ref 182), some (.ref p0), none, none, none, none]) (st1 := [.ref 182]) (M1 := mjTo Z) rfl ?_
    refine pG_getR (ci := 6) (f := 0) (b := 183) rfl rfl rfl (by rfl) rfl ?_
    cases hq103 : f68_advance  Z with
    | none => rw [hq103] at h; cases h
    | some w =>
      obtain ⟨v104, Z105⟩ := w
      rw [hq103, mjBd_some] at h
      refine pG_callV (k2 := 68) (As := [.ref 183]) (rest := []) rfl rfl rfl rfl rfl (by rfl) (by decide) (f68_advance_ok hq103) ?_
      rintro r9 M9 ⟨rfl, rfl⟩
      show pG 124 22 [some (.ref 182), some (.ref p0), none, none, none, none] [] (mjTo Z105) _
      refine pG_many 1 (pc1 := 23) (L1 := [some (.ref 182), some (.ref p0), none, none, none, none]) (st1 := [.ref 182]) (M1 := mjTo Z105) rfl ?_
      refine pG_getR (ci := 6) (f := 0) (b := 183) rfl rfl rfl (by rfl) rfl ?_
      refine pG_many 1 (pc1 := 28) (L1 := [some (.ref 182), some (.ref p0), none, none, none, none]) (st1 := [.ref 1000003, .ref 183]) (M1 := mjTo Z105) rfl ?_
      cases hq106 : f51_indexIn 1000003 Z105 with
      | none => rw [hq106] at h; cases h
      | some v107 =>
        rw [hq106, mjBp_some] at h
        refine pG_callV (k2 := 51) (As := [.ref 183, .ref 1000003]) (rest := []) rfl rfl rfl rfl rfl (by rfl) (by decide) (f51_indexIn_ok hq106) ?_
        rintro r9 M9 ⟨rfl, rfl⟩
        show pG 124 31 [some (.ref 182), some (.ref p0), none, none, none, none] [.int v107] (mjTo Z105) _
        refine pG_many 3 (pc1 := 34) (L1 := [some (.ref 182), some (.ref p0), some (.int v107), none, none, none]) (st1 := [.int ((-1)), .int v107]) (M1 := mjTo Z105) rfl ?_
        by_cases hc109 : mjCmp .eq v107 ((-1)) = true
        · rw [if_pos hc109] at h
          refine pG_cmt (t := 42) rfl rfl hc109 ?_
          refine pG_many 2 (pc1 := 44) (L1 := [some (.ref 182), some (.ref p0), some (.int v107), none, none, none]) (st1 := [.int 2, .ref 182]) (M1 := mjTo Z105) rfl ?_
          cases hq110 : f114_fail 2 Z105 with
          | none => rw [hq110] at h; cases h
          | some w =>
            obtain ⟨v111, Z112⟩ := w
            rw [hq110, mjBd_some] at h
            refine pG_callV (k2 := 114) (As := [.ref 182, .int 2]) (rest := []) rfl rfl rfl rfl rfl (by rfl) (by decide) (f114_fail_ok hq110) ?_
            rintro r9 M9 ⟨rfl, rfl⟩
            show pG 124 47 [some (.ref 182), some (.ref p0), some (.int v107), none, none, none] [.int v111] (mjTo Z112) _
            have hk113 : v111 = 0 ∨ v111 = 1 := by
              by_cases q9 : v111 = 0 ∨ v111 = 1
              · exact q9
              · rw [if_neg q9] at h; cases h
            rw [if_pos hk113] at h
            simp only [Option.some.injEq, Prod.mk.injEq] at h
            obtain ⟨rfl, rfl⟩ := h
            exact pG_ret (r := some (.int v111)) (mjRt1_z rfl rfl hk113) ⟨rfl, rfl⟩
        · rw [if_neg hc109] at h
          refine pG_cmf (t := 42) rfl rfl hc109 ?_
          refine pG_many 2 (pc1 := 39) (L1 := [some (.ref 182), some (.ref p0), some (.int v107), none, none, none]) (st1 := [.int 4, .int v107]) (M1 := mjTo Z105) rfl ?_
          by_cases hc114 : mjCmp .ne v107 4 = true
          · rw [if_pos hc114] at h
            refine pG_cmt (t := 48) rfl rfl hc114 ?_
            refine pG_many 1 (pc1 := 49) (L1 := [some (.ref 182), some (.ref p0), some (.int v107), none, none, none]) (st1 := [.ref 182]) (M1 := mjTo Z105) rfl ?_
            refine pG_getR (ci := 6) (f := 0) (b := 183) rfl rfl rfl (by rfl) rfl ?_
            cases hq115 : f68_advance  Z105 with
            | none => rw [hq115] at h; cases h
            | some w =>
              obtain ⟨v116, Z117⟩ := w
              rw [hq115, mjBd_some] at h
              refine pG_callV (k2 := 68) (As := [.ref 183]) (rest := []) rfl rfl rfl rfl rfl (by rfl) (by decide) (f68_advance_ok hq115) ?_
              rintro r9 M9 ⟨rfl, rfl⟩
              show pG 124 55 [some (.ref 182), some (.ref p0), some (.int v107), none, none, none] [] (mjTo Z117) _
              refine pG_many 3 (pc1 := 58) (L1 := [some (.ref 182), some (.ref p0), some (.int v107), none, none, none]) (st1 := [.int ((-1)), .ref p0, .ref 182]) (M1 := mjTo Z117) rfl ?_
              cases hq118 : f121_takeTeam p0 ((-1)) Z117 with
              | none => rw [hq118] at h; cases h
              | some w =>
                obtain ⟨v119, Z120⟩ := w
                rw [hq118, mjBd_some] at h
                refine pG_callV (k2 := 121) (As := [.ref 182, .ref p0, .int ((-1))]) (rest := []) rfl rfl rfl rfl rfl (by rfl) (by decide) (f121_takeTeam_ok hq118) ?_
                rintro r9 M9 ⟨rfl, rfl⟩
                show pG 124 61 [some (.ref 182), some (.ref p0), some (.int v107), none, none, none] [.int v119] (mjTo Z120) _
                refine pG_many 3 (pc1 := 64) (L1 := [some (.ref 182), some (.ref p0), some (.int v107), some (.int v119), none, none]) (st1 := [.int ((-1)), .int v119]) (M1 := mjTo Z120) rfl ?_
                by_cases hc121 : mjCmp .ne v119 ((-1)) = true
                · rw [if_pos hc121] at h
                  refine pG_cmt (t := 69) rfl rfl hc121 ?_
                  refine pG_many 2 (pc1 := 71) (L1 := [some (.ref 182), some (.ref p0), some (.int v107), some (.int v119), none, none]) (st1 := [.int 3, .int v107]) (M1 := mjTo Z120) rfl ?_
                  by_cases hc122 : mjCmp .ne v107 3 = true
                  · rw [if_pos hc122] at h
                    refine pG_cmt (t := 83) rfl rfl hc122 ?_
                    refine pG_many 1 (pc1 := 84) (L1 := [some (.ref 182), some (.ref p0), some (.int v107), some (.int v119), none, none]) (st1 := [.int ((-1))]) (M1 := mjTo Z120) rfl ?_
                    exact f124_readAct_j84_ok p0 v107 v119 ((-1)) none none Z120 v9 Z9 h
                  · rw [if_neg hc122] at h
                    refine pG_cmf (t := 83) rfl rfl hc122 ?_
                    refine pG_many 3 (pc1 := 77) (L1 := [some (.ref 182), some (.ref p0), some (.int v107), some (.int v119), none, none]) (st1 := [.int v119, .ref p0, .ref 182]) (M1 := mjTo Z120) rfl ?_
                    cases hq136 : f121_takeTeam p0 v119 Z120 with
                    | none => rw [hq136] at h; cases h
                    | some w =>
                      obtain ⟨v137, Z138⟩ := w
                      rw [hq136, mjBd_some] at h
                      refine pG_callV (k2 := 121) (As := [.ref 182, .ref p0, .int v119]) (rest := []) rfl rfl rfl rfl rfl (by rfl) (by decide) (f121_takeTeam_ok hq136) ?_
                      rintro r9 M9 ⟨rfl, rfl⟩
                      show pG 124 80 [some (.ref 182), some (.ref p0), some (.int v107), some (.int v119), none, none] [.int v137] (mjTo Z138) _
                      refine pG_many 1 (pc1 := 84) (L1 := [some (.ref 182), some (.ref p0), some (.int v107), some (.int v119), none, none]) (st1 := [.int v137]) (M1 := mjTo Z138) rfl ?_
                      exact f124_readAct_j84_ok p0 v107 v119 v137 none none Z138 v9 Z9 h
                · rw [if_neg hc121] at h
                  refine pG_cmf (t := 69) rfl rfl hc121 ?_
                  refine pG_many 1 (pc1 := 68) (L1 := [some (.ref 182), some (.ref p0), some (.int v107), some (.int v119), none, none]) (st1 := [.int 0]) (M1 := mjTo Z120) rfl ?_
                  simp only [Option.some.injEq, Prod.mk.injEq] at h
                  obtain ⟨rfl, rfl⟩ := h
                  exact pG_ret (r := some (.int 0)) rfl ⟨rfl, rfl⟩
          · rw [if_neg hc114] at h
            refine pG_cmf (t := 48) rfl rfl hc114 ?_
            refine pG_many 2 (pc1 := 44) (L1 := [some (.ref 182), some (.ref p0), some (.int v107), none, none, none]) (st1 := [.int 2, .ref 182]) (M1 := mjTo Z105) rfl ?_
            cases hq139 : f114_fail 2 Z105 with
            | none => rw [hq139] at h; cases h
            | some w =>
              obtain ⟨v140, Z141⟩ := w
              rw [hq139, mjBd_some] at h
              refine pG_callV (k2 := 114) (As := [.ref 182, .int 2]) (rest := []) rfl rfl rfl rfl rfl (by rfl) (by decide) (f114_fail_ok hq139) ?_
              rintro r9 M9 ⟨rfl, rfl⟩
              show pG 124 47 [some (.ref 182), some (.ref p0), some (.int v107), none, none, none] [.int v140] (mjTo Z141) _
              have hk142 : v140 = 0 ∨ v140 = 1 := by
                by_cases q9 : v140 = 0 ∨ v140 = 1
                · exact q9
                · rw [if_neg q9] at h; cases h
              rw [if_pos hk142] at h
              simp only [Option.some.injEq, Prod.mk.injEq] at h
              obtain ⟨rfl, rfl⟩ := h
              exact pG_ret (r := some (.int v140)) (mjRt1_z rfl rfl hk142) ⟨rfl, rfl⟩
  · rw [if_neg hc102] at h
    refine pG_cmf (t := 15) rfl rfl hc102 ?_
    refine pG_many 2 (pc1 := 11) (L1 := [some (.ref 182), some (.ref p0), none, none, none, none]) (st1 := [.int 5, .ref 182]) (M1 := mjTo Z) rfl ?_
    cases hq143 : f114_fail 5 Z with
    | none => rw [hq143] at h; cases h
    | some w =>
      obtain ⟨v144, Z145⟩ := w
      rw [hq143, mjBd_some] at h
      refine pG_callV (k2 := 114) (As := [.ref 182, .int 5]) (rest := []) rfl rfl rfl rfl rfl (by rfl) (by decide) (f114_fail_ok hq143) ?_
      rintro r9 M9 ⟨rfl, rfl⟩
      show pG 124 14 [some (.ref 182), some (.ref p0), none, none, none, none] [.int v144] (mjTo Z145) _
      have hk146 : v144 = 0 ∨ v144 = 1 := by
        by_cases q9 : v144 = 0 ∨ v144 = 1
        · exact q9
        · rw [if_neg q9] at h; cases h
      rw [if_pos hk146] at h
      simp only [Option.some.injEq, Prod.mk.injEq] at h
      obtain ⟨rfl, rfl⟩ := h
      exact pG_ret (r := some (.int v144)) (mjRt1_z rfl rfl hk146) ⟨rfl, rfl⟩
