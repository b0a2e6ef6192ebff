def f135_decideThrough_j112 (R : Nat → Nat → Int32 → Int32 → mjZt → Option (Unit × mjZt)) (x0 : Nat) (x1 : Nat) (x2 : Int32) (x3 : Int32) (s0 : Int32) (Z : mjZt) : Option (Unit × mjZt) :=
  if mjCmp .eq s0 0 = true then
    R x0 x1 x2 (x3 + 1) Z
  else
    if mjIs x0 211 10 = true then
    if mjIs (x0 + 2) 211 13 = true then
    if mjIn x3 (mjLay (x0 + 2)).2 = true then
    if mjIs x1 211 2 = true then
    if mjCmp .gt (Z.1 (x0 + 2) (mjIx x3)) (x2 + (Z.1 x1 10)) = true then
      R x0 x1 x2 (x3 + 1) Z
    else
      mjLet (zSi Z x0 7 ((Z.1 x0 7) ||| ((1 : Int32) <<< ((x3 : Int32) &&& 31)))) fun Z117 =>
      R x0 x1 x2 (x3 + 1) Z117
    else none
    else none
    else none
    else none
theorem f135_decideThrough_j112_ok (R : Nat → Nat → Int32 → Int32 → mjZt → Option (Unit × mjZt)) (hR : ∀ (x0 : Nat) (x1 : Nat) (x2 : Int32) (x3 : Int32) (d4 : Option Value) (Z : mjZt) (v9 : Unit) (Z9 : mjZt), R x0 x1 x2 x3 Z = some (v9, Z9) → pG 124 74 [some (.ref x0), some (.ref x1), some (.int x2), some (.int x3), d4] [] (mjTo Z) (fun r M1 => r = none ∧ M1 = mjTo Z9)) (x0 : Nat) (x1 : Nat) (x2 : Int32) (x3 : Int32) (s0 : Int32) (d4 : Option Value) (Z : mjZt) (v9 : Unit) (Z9 : mjZt) (h : f135_decideThrough_j112 R x0 x1 x2 x3 s0 Z = some (v9, Z9)) : pG 124 112 [some (.ref x0), some (.ref x1), some (.int x2), some (.int x3), d4] [.int s0] (mjTo Z) (fun r M1 => r = none ∧ M1 = mjTo Z9) := by
  unfold f135_decideThrough_j112 at h
  refine pG_many 2 (pc1 := 116) (L1 := [some (.ref x0), some (.ref x1), some (.int x2), some (.int x3), some (.int s0)]) (st1 := [.int s0]) (M1 := mjTo Z) (fun _ _ => rfl) ?_
  by_cases hc111 : mjCmp .eq s0 0 = true
  · rw [if_pos hc111] at h
    refine pG_ift (t := 146) rfl rfl hc111 ?_
    refine pG_many 2 (pc1 := 74) (L1 := [some (.ref x0), some (.ref x1), some (.int x2), some (.int (x3 + 1)), some (.int s0)]) (st1 := []) (M1 := mjTo Z) (fun _ _ => rfl) ?_
    exact hR x0 x1 x2 (x3 + 1) (some (.int s0)) Z v9 Z9 h
  · rw [if_neg hc111] at h
    refine pG_iff (t := 146) rfl rfl hc111 ?_
    refine pG_many 1 (pc1 := 120) (L1 := [some (.ref x0), some (.ref x1), some (.int x2), some (.int x3), some (.int s0)]) (st1 := [.ref x0]) (M1 := mjTo Z) (fun _ _ => rfl) ?_
    have hk112 : mjIs x0 211 10 = true := by
      by_cases q9 : mjIs x0 211 10 = true
      · exact q9
      · rw [if_neg q9] at h; cases h
    rw [if_pos hk112] at h
    refine pG_getR (ci := 10) (f := 1) (b := x0 + 2) rfl rfl rfl hk112 (by decide) (mjRc10_1 hk112) ?_
    refine pG_many 1 (pc1 := 124) (L1 := [some (.ref x0), some (.ref x1), some (.int x2), some (.int x3), some (.int s0)]) (st1 := [.int x3, .ref (x0 + 2)]) (M1 := mjTo Z) (fun _ _ => rfl) ?_
    have hk113 : mjIs (x0 + 2) 211 13 = true := by
      by_cases q9 : mjIs (x0 + 2) 211 13 = true
      · exact q9
      · rw [if_neg q9] at h; cases h
    rw [if_pos hk113] at h
    have hk114 : mjIn x3 (mjLay (x0 + 2)).2 = true := by
      by_cases q9 : mjIn x3 (mjLay (x0 + 2)).2 = true
      · exact q9
      · rw [if_neg q9] at h; cases h
    rw [if_pos hk114] at h
    refine pG_ial rfl hk113 hk114 ?_
    refine pG_many 2 (pc1 := 127) (L1 := [some (.ref x0), some (.ref x1), some (.int x2), some (.int x3), some (.int s0)]) (st1 := [.ref x1, .int x2, .int (Z.1 (x0 + 2) (mjIx x3))]) (M1 := mjTo Z) (fun _ _ => rfl) ?_
    have hk115 : mjIs x1 211 2 = true := by
      by_cases q9 : mjIs x1 211 2 = true
      · exact q9
      · rw [if_neg q9] at h; cases h
    rw [if_pos hk115] at h
    refine pG_getI (ci := 2) (f := 10) rfl rfl (Or.inl rfl) hk115 (by decide) ?_
    refine pG_many 1 (pc1 := 131) (L1 := [some (.ref x0), some (.ref x1), some (.int x2), some (.int x3), some (.int s0)]) (st1 := [.int (x2 + (Z.1 x1 10)), .int (Z.1 (x0 + 2) (mjIx x3))]) (M1 := mjTo Z) (fun _ _ => rfl) ?_
    by_cases hc116 : mjCmp .gt (Z.1 (x0 + 2) (mjIx x3)) (x2 + (Z.1 x1 10)) = true
    · rw [if_pos hc116] at h
      refine pG_cmt (t := 146) rfl rfl hc116 ?_
      refine pG_many 2 (pc1 := 74) (L1 := [some (.ref x0), some (.ref x1), some (.int x2), some (.int (x3 + 1)), some (.int s0)]) (st1 := []) (M1 := mjTo Z) (fun _ _ => rfl) ?_
      exact hR x0 x1 x2 (x3 + 1) (some (.int s0)) Z v9 Z9 h
    · rw [if_neg hc116] at h
      refine pG_cmf (t := 146) rfl rfl hc116 ?_
      refine pG_many 2 (pc1 := 136) (L1 := [some (.ref x0), some (.ref x1), some (.int x2), some (.int x3), some (.int s0)]) (st1 := [.ref x0, .ref x0]) (M1 := mjTo Z) (fun _ _ => rfl) ?_
      refine pG_getI (ci := 10) (f := 7) rfl rfl (Or.inl rfl) hk112 (by decide) ?_
      refine pG_many 4 (pc1 := 143) (L1 := [some (.ref x0), some (.ref x1), some (.int x2), some (.int x3), some (.int s0)]) (st1 := [.int ((Z.1 x0 7) ||| ((1 : Int32) <<< ((x3 : Int32) &&& 31))), .ref x0]) (M1 := mjTo Z) (fun _ _ => rfl) ?_
      refine pG_putI (ci := 10) (f := 7) rfl rfl rfl rfl hk112 (by decide) ?_
      rw [mjLet] at h
      generalize zSi Z x0 7 ((Z.1 x0 7) ||| ((1 : Int32) <<< ((x3 : Int32) &&& 31))) = Z117 at h ⊢
      refine pG_many 2 (pc1 := 74) (L1 := [some (.ref x0), some (.ref x1), some (.int x2), some (.int (x3 + 1)), some (.int s0)]) (st1 := []) (M1 := mjTo Z117) (fun _ _ => rfl) ?_
      exact hR x0 x1 x2 (x3 + 1) (some (.int s0)) Z117 v9 Z9 h
def f135_decideThrough_j111 (R : Nat → Nat → Int32 → Int32 → mjZt → Option (Unit × mjZt)) (x0 : Nat) (x1 : Nat) (x2 : Int32) (x3 : Int32) (Z : mjZt) : Option (Unit × mjZt) :=
  f135_decideThrough_j112 R x0 x1 x2 x3 0 Z
theorem f135_decideThrough_j111_ok (R : Nat → Nat → Int32 → Int32 → mjZt → Option (Unit × mjZt)) (hR : ∀ (x0 : Nat) (x1 : Nat) (x2 : Int32) (x3 : Int32) (d4 : Option Value) (Z : mjZt) (v9 : Unit) (Z9 : mjZt), R x0 x1 x2 x3 Z = some (v9, Z9) → pG 124 74 [some (.ref x0), some (.ref x1), some (.int x2), some (.int x3), d4] [] (mjTo Z) (fun r M1 => r = none ∧ M1 = mjTo Z9)) (x0 : Nat) (x1 : Nat) (x2 : Int32) (x3 : Int32) (d4 : Option Value) (Z : mjZt) (v9 : Unit) (Z9 : mjZt) (h : f135_decideThrough_j111 R x0 x1 x2 x3 Z = some (v9, Z9)) : pG 124 111 [some (.ref x0), some (.ref x1), some (.int x2), some (.int x3), d4] [] (mjTo Z) (fun r M1 => r = none ∧ M1 = mjTo Z9) := by
  unfold f135_decideThrough_j111 at h
  refine pG_many 1 (pc1 := 112) (L1 := [some (.ref x0), some (.ref x1), some (.int x2), some (.int x3), d4]) (st1 := [.int 0]) (M1 := mjTo Z) (fun _ _ => rfl) ?_
  exact f135_decideThrough_j112_ok R hR x0 x1 x2 x3 0 d4 Z v9 Z9 h
def f135_decideThrough_h74 : Nat → Nat → Nat → Int32 → Int32 → mjZt → Option (Unit × mjZt)
  | 0, _, _, _, _, _ => none
  | n + 1, x0, x1, x2, x3, Z =>
    if mjCmp .ge x3 6 = true then
      some ((), Z)
    else
      if mjIs x0 211 10 = true then
      mjBp (f133_isIn x0 x3 Z) fun v108 =>
      if mjCmp .eq v108 0 = true then
        f135_decideThrough_j111 (f135_decideThrough_h74 n) x0 x1 x2 x3 Z
      else
        if mjCmp .ne (((((Z.1 x0 6) &&& ((Z.1 x0 5) ^^^ ((-1)))) : Int32) >>> ((x3 : Int32) &&& 31)) &&& 1) 1 = true then
          f135_decideThrough_j111 (f135_decideThrough_h74 n) x0 x1 x2 x3 Z
        else
          f135_decideThrough_j112 (f135_decideThrough_h74 n) x0 x1 x2 x3 1 Z
      else none
theorem f135_decideThrough_h74_ok : ∀ (n : Nat) (x0 : Nat) (x1 : Nat) (x2 : Int32) (x3 : Int32) (d4 : Option Value) (Z : mjZt) (v9 : Unit) (Z9 : mjZt), f135_decideThrough_h74 n x0 x1 x2 x3 Z = some (v9, Z9) → pG 124 74 [some (.ref x0), some (.ref x1), some (.int x2), some (.int x3), d4] [] (mjTo Z) (fun r M1 => r = none ∧ M1 = mjTo Z9)
  | 0, x0, x1, x2, x3, d4, Z, v9, Z9, h => by rw [f135_decideThrough_h74] at h; cases h
  | n + 1, x0, x1, x2, x3, d4, Z, v9, Z9, h => by
      rw [f135_decideThrough_h74] at h
      refine pG_many 2 (pc1 := 77) (L1 := [some (.ref x0), some (.ref x1), some (.int x2), some (.int x3), d4]) (st1 := [.int 6, .int x3]) (M1 := mjTo Z) (fun _ _ => rfl) ?_
      by_cases hc105 : mjCmp .ge x3 6 = true
      · rw [if_pos hc105] at h
        refine pG_cmt (t := 152) rfl rfl hc105 ?_
        simp only [Option.some.injEq, Prod.mk.injEq] at h
        obtain ⟨-, rfl⟩ := h
        exact pG_ret (r := none) rfl ⟨rfl, rfl⟩
      · rw [if_neg hc105] at h
        refine pG_cmf (t := 152) rfl rfl hc105 ?_
        refine pG_many 2 (pc1 := 82) (L1 := [some (.ref x0), some (.ref x1), some (.int x2), some (.int x3), d4]) (st1 := [.int x3, .ref x0]) (M1 := mjTo Z) (fun _ _ => rfl) ?_
        have hk106 : mjIs x0 211 10 = true := by
          by_cases q9 : mjIs x0 211 10 = true
          · exact q9
          · rw [if_neg q9] at h; cases h
        rw [if_pos hk106] at h
        cases hq107 : f133_isIn x0 x3 Z with
        | none => rw [hq107] at h; cases h
        | some v108 =>
          rw [hq107, mjBp_some] at h
          refine pG_callV (k2 := 122) (As := [.ref x0, .int x3]) (rest := []) rfl rfl rfl rfl rfl (mjRcv_is hk106 (by decide)) (by decide) (by decide) (f133_isIn_ok hq107) ?_
          rintro r9 M9 ⟨rfl, rfl⟩
          show pG 124 85 [some (.ref x0), some (.ref x1), some (.int x2), some (.int x3), d4] [.int v108] (mjTo Z) _
          by_cases hc110 : mjCmp .eq v108 0 = true
          · rw [if_pos hc110] at h
            refine pG_ift (t := 111) rfl rfl hc110 ?_
            exact f135_decideThrough_j111_ok (f135_decideThrough_h74 n) (fun x0 x1 x2 x3 d4 Z v9 Z9 h => f135_decideThrough_h74_ok n x0 x1 x2 x3 d4 Z v9 Z9 h) x0 x1 x2 x3 d4 Z v9 Z9 h
          · rw [if_neg hc110] at h
            refine pG_iff (t := 111) rfl rfl hc110 ?_
            refine pG_many 1 (pc1 := 89) (L1 := [some (.ref x0), some (.ref x1), some (.int x2), some (.int x3), d4]) (st1 := [.ref x0]) (M1 := mjTo Z) (fun _ _ => rfl) ?_
            refine pG_getI (ci := 10) (f := 6) rfl rfl (Or.inl rfl) hk106 (by decide) ?_
            refine pG_many 1 (pc1 := 93) (L1 := [some (.ref x0), some (.ref x1), some (.int x2), some (.int x3), d4]) (st1 := [.ref x0, .int (Z.1 x0 6)]) (M1 := mjTo Z) (fun _ _ => rfl) ?_
            refine pG_getI (ci := 10) (f := 5) rfl rfl (Or.inl rfl) hk106 (by decide) ?_
            refine pG_many 8 (pc1 := 104) (L1 := [some (.ref x0), some (.ref x1), some (.int x2), some (.int x3), d4]) (st1 := [.int 1, .int (((((Z.1 x0 6) &&& ((Z.1 x0 5) ^^^ ((-1)))) : Int32) >>> ((x3 : Int32) &&& 31)) &&& 1)]) (M1 := mjTo Z) (fun _ _ => rfl) ?_
            by_cases hc118 : mjCmp .ne (((((Z.1 x0 6) &&& ((Z.1 x0 5) ^^^ ((-1)))) : Int32) >>> ((x3 : Int32) &&& 31)) &&& 1) 1 = true
            · rw [if_pos hc118] at h
              refine pG_cmt (t := 111) rfl rfl hc118 ?_
              exact f135_decideThrough_j111_ok (f135_decideThrough_h74 n) (fun x0 x1 x2 x3 d4 Z v9 Z9 h => f135_decideThrough_h74_ok n x0 x1 x2 x3 d4 Z v9 Z9 h) x0 x1 x2 x3 d4 Z v9 Z9 h
            · rw [if_neg hc118] at h
              refine pG_cmf (t := 111) rfl rfl hc118 ?_
              refine pG_many 2 (pc1 := 112) (L1 := [some (.ref x0), some (.ref x1), some (.int x2), some (.int x3), d4]) (st1 := [.int 1]) (M1 := mjTo Z) (fun _ _ => rfl) ?_
              exact f135_decideThrough_j112_ok (f135_decideThrough_h74 n) (fun x0 x1 x2 x3 d4 Z v9 Z9 h => f135_decideThrough_h74_ok n x0 x1 x2 x3 d4 Z v9 Z9 h) x0 x1 x2 x3 1 d4 Z v9 Z9 h
def f135_decideThrough_h14 : Nat → Nat → Nat → Int32 → Int32 → mjZt → Option (Unit × mjZt)
  | 0, _, _, _, _, _ => none
  | n + 1, x0, x1, x2, x3, Z =>
    if mjCmp .ge x3 6 = true then
      f135_decideThrough_h74 mjF x0 x1 x2 0 Z
    else
      if mjIs x0 211 10 = true then
      mjBp (f133_isIn x0 x3 Z) fun v121 =>
      if mjCmp .eq v121 0 = true then
        f135_decideThrough_h14 n x0 x1 x2 (x3 + 1) Z
      else
        mjBp (f134_rankOf (x0 + 3) x3 Z) fun v125 =>
        if mjIs x1 211 2 = true then
        if mjCmp .gt v125 (Z.1 x1 9) = true then
          f135_decideThrough_h14 n x0 x1 x2 (x3 + 1) Z
        else
          mjLet (zSi Z x0 5 ((Z.1 x0 5) ||| ((1 : Int32) <<< ((x3 : Int32) &&& 31)))) fun Z129 =>
          if mjIs (x0 + 3) 211 13 = true then
          if mjIn x3 (mjLay (x0 + 3)).2 = true then
          f135_decideThrough_h14 n x0 x1 (mjMax x2 (Z129.1 (x0 + 3) (mjIx x3))) (x3 + 1) Z129
          else none
          else none
        else none
      else none
theorem f135_decideThrough_h14_ok : ∀ (n : Nat) (x0 : Nat) (x1 : Nat) (x2 : Int32) (x3 : Int32) (d4 : Option Value) (Z : mjZt) (v9 : Unit) (Z9 : mjZt), f135_decideThrough_h14 n x0 x1 x2 x3 Z = some (v9, Z9) → pG 124 14 [some (.ref x0), some (.ref x1), some (.int x2), some (.int x3), d4] [] (mjTo Z) (fun r M1 => r = none ∧ M1 = mjTo Z9)
  | 0, x0, x1, x2, x3, d4, Z, v9, Z9, h => by rw [f135_decideThrough_h14] at h; cases h
  | n + 1, x0, x1, x2, x3, d4, Z, v9, Z9, h => by
      rw [f135_decideThrough_h14] at h
      refine pG_many 2 (pc1 := 17) (L1 := [some (.ref x0), some (.ref x1), some (.int x2), some (.int x3), d4]) (st1 := [.int 6, .int x3]) (M1 := mjTo Z) (fun _ _ => rfl) ?_
      by_cases hc104 : mjCmp .ge x3 6 = true
      · rw [if_pos hc104] at h
        refine pG_cmt (t := 72) rfl rfl hc104 ?_
        refine pG_many 2 (pc1 := 74) (L1 := [some (.ref x0), some (.ref x1), some (.int x2), some (.int 0), d4]) (st1 := []) (M1 := mjTo Z) (fun _ _ => rfl) ?_
        exact f135_decideThrough_h74_ok mjF x0 x1 x2 0 d4 Z v9 Z9 h
      · rw [if_neg hc104] at h
        refine pG_cmf (t := 72) rfl rfl hc104 ?_
        refine pG_many 2 (pc1 := 22) (L1 := [some (.ref x0), some (.ref x1), some (.int x2), some (.int x3), d4]) (st1 := [.int x3, .ref x0]) (M1 := mjTo Z) (fun _ _ => rfl) ?_
        have hk119 : mjIs x0 211 10 = true := by
          by_cases q9 : mjIs x0 211 10 = true
          · exact q9
          · rw [if_neg q9] at h; cases h
        rw [if_pos hk119] at h
        cases hq120 : f133_isIn x0 x3 Z with
        | none => rw [hq120] at h; cases h
        | some v121 =>
          rw [hq120, mjBp_some] at h
          refine pG_callV (k2 := 122) (As := [.ref x0, .int x3]) (rest := []) rfl rfl rfl rfl rfl (mjRcv_is hk119 (by decide)) (by decide) (by decide) (f133_isIn_ok hq120) ?_
          rintro r9 M9 ⟨rfl, rfl⟩
          show pG 124 25 [some (.ref x0), some (.ref x1), some (.int x2), some (.int x3), d4] [.int v121] (mjTo Z) _
          by_cases hc123 : mjCmp .eq v121 0 = true
          · rw [if_pos hc123] at h
            refine pG_ift (t := 66) rfl rfl hc123 ?_
            refine pG_many 2 (pc1 := 14) (L1 := [some (.ref x0), some (.ref x1), some (.int x2), some (.int (x3 + 1)), d4]) (st1 := []) (M1 := mjTo Z) (fun _ _ => rfl) ?_
            exact f135_decideThrough_h14_ok n x0 x1 x2 (x3 + 1) d4 Z v9 Z9 h
          · rw [if_neg hc123] at h
            refine pG_iff (t := 66) rfl rfl hc123 ?_
            refine pG_many 1 (pc1 := 29) (L1 := [some (.ref x0), some (.ref x1), some (.int x2), some (.int x3), d4]) (st1 := [.ref x0]) (M1 := mjTo Z) (fun _ _ => rfl) ?_
            refine pG_getR (ci := 10) (f := 2) (b := x0 + 3) rfl rfl rfl hk119 (by decide) (mjRc10_2 hk119) ?_
            refine pG_many 1 (pc1 := 33) (L1 := [some (.ref x0), some (.ref x1), some (.int x2), some (.int x3), d4]) (st1 := [.int x3, .ref (x0 + 3)]) (M1 := mjTo Z) (fun _ _ => rfl) ?_
            cases hq124 : f134_rankOf (x0 + 3) x3 Z with
            | none => rw [hq124] at h; cases h
            | some v125 =>
              rw [hq124, mjBp_some] at h
              refine pG_call (k2 := 123) (As := [.ref (x0 + 3), .int x3]) (rest := []) (fun _ _ => rfl) (by decide) (by decide) (f134_rankOf_ok hq124) ?_
              rintro r9 M9 ⟨rfl, rfl⟩
              show pG 124 36 [some (.ref x0), some (.ref x1), some (.int x2), some (.int x3), d4] [.int v125] (mjTo Z) _
              refine pG_many 1 (pc1 := 37) (L1 := [some (.ref x0), some (.ref x1), some (.int x2), some (.int x3), d4]) (st1 := [.ref x1, .int v125]) (M1 := mjTo Z) (fun _ _ => rfl) ?_
              have hk127 : mjIs x1 211 2 = true := by
                by_cases q9 : mjIs x1 211 2 = true
                · exact q9
                · rw [if_neg q9] at h; cases h
              rw [if_pos hk127] at h
              refine pG_getI (ci := 2) (f := 9) rfl rfl (Or.inl rfl) hk127 (by decide) ?_
              by_cases hc128 : mjCmp .gt v125 (Z.1 x1 9) = true
              · rw [if_pos hc128] at h
                refine pG_cmt (t := 66) rfl rfl hc128 ?_
                refine pG_many 2 (pc1 := 14) (L1 := [some (.ref x0), some (.ref x1), some (.int x2), some (.int (x3 + 1)), d4]) (st1 := []) (M1 := mjTo Z) (fun _ _ => rfl) ?_
                exact f135_decideThrough_h14_ok n x0 x1 x2 (x3 + 1) d4 Z v9 Z9 h
              · rw [if_neg hc128] at h
                refine pG_cmf (t := 66) rfl rfl hc128 ?_
                refine pG_many 2 (pc1 := 45) (L1 := [some (.ref x0), some (.ref x1), some (.int x2), some (.int x3), d4]) (st1 := [.ref x0, .ref x0]) (M1 := mjTo Z) (fun _ _ => rfl) ?_
                refine pG_getI (ci := 10) (f := 5) rfl rfl (Or.inl rfl) hk119 (by decide) ?_
                refine pG_many 4 (pc1 := 52) (L1 := [some (.ref x0), some (.ref x1), some (.int x2), some (.int x3), d4]) (st1 := [.int ((Z.1 x0 5) ||| ((1 : Int32) <<< ((x3 : Int32) &&& 31))), .ref x0]) (M1 := mjTo Z) (fun _ _ => rfl) ?_
                refine pG_putI (ci := 10) (f := 5) rfl rfl rfl rfl hk119 (by decide) ?_
                rw [mjLet] at h
                generalize zSi Z x0 5 ((Z.1 x0 5) ||| ((1 : Int32) <<< ((x3 : Int32) &&& 31))) = Z129 at h ⊢
                refine pG_many 2 (pc1 := 57) (L1 := [some (.ref x0), some (.ref x1), some (.int x2), some (.int x3), d4]) (st1 := [.ref x0, .int x2]) (M1 := mjTo Z129) (fun _ _ => rfl) ?_
                refine pG_getR (ci := 10) (f := 2) (b := x0 + 3) rfl rfl rfl hk119 (by decide) (mjRc10_2 hk119) ?_
                refine pG_many 1 (pc1 := 61) (L1 := [some (.ref x0), some (.ref x1), some (.int x2), some (.int x3), d4]) (st1 := [.int x3, .ref (x0 + 3), .int x2]) (M1 := mjTo Z129) (fun _ _ => rfl) ?_
                have hk130 : mjIs (x0 + 3) 211 13 = true := by
                  by_cases q9 : mjIs (x0 + 3) 211 13 = true
                  · exact q9
                  · rw [if_neg q9] at h; cases h
                rw [if_pos hk130] at h
                have hk131 : mjIn x3 (mjLay (x0 + 3)).2 = true := by
                  by_cases q9 : mjIn x3 (mjLay (x0 + 3)).2 = true
                  · exact q9
                  · rw [if_neg q9] at h; cases h
                rw [if_pos hk131] at h
                refine pG_ial rfl hk130 hk131 ?_
                refine pG_prim (v := .int (mjMax x2 (Z129.1 (x0 + 3) (mjIx x3)))) (fun _ _ => rfl) (by decide) rfl ?_
                refine pG_many 3 (pc1 := 14) (L1 := [some (.ref x0), some (.ref x1), some (.int (mjMax x2 (Z129.1 (x0 + 3) (mjIx x3)))), some (.int (x3 + 1)), d4]) (st1 := []) (M1 := mjTo Z129) (fun _ _ => rfl) ?_
                exact f135_decideThrough_h14_ok n x0 x1 (mjMax x2 (Z129.1 (x0 + 3) (mjIx x3))) (x3 + 1) d4 Z129 v9 Z9 h
def f135_decideThrough (a0 : Nat) (p0 : Nat) (Z : mjZt) : Option (Unit × mjZt) :=
  if mjIs a0 211 10 = true then
  mjLet (zSi Z a0 5 0) fun Z102 =>
  mjLet (zSi Z102 a0 7 0) fun Z103 =>
  f135_decideThrough_h14 mjF a0 p0 0 0 Z103
  else none
theorem f135_decideThrough_ok {a0 : Nat} {p0 : Nat} {Z : mjZt} {v9 : Unit} {Z9 : mjZt} (h : f135_decideThrough a0 p0 Z = some (v9, Z9)) : pG 124 0 (mjEnt [.ref a0, .ref p0] (mjML 124)) [] (mjTo Z) (fun r M1 => r = none ∧ M1 = mjTo Z9) := by
  unfold f135_decideThrough at h
  show pG 124 0 [some (.ref a0), some (.ref p0), none, none, none] [] (mjTo Z) _
  refine pG_many 2 (pc1 := 2) (L1 := [some (.ref a0), some (.ref p0), none, none, none]) (st1 := [.int 0, .ref a0]) (M1 := mjTo Z) (fun _ _ => rfl) ?_
  have hk101 : mjIs a0 211 10 = true := by
    by_cases q9 : mjIs a0 211 10 = true
    · exact q9
    · rw [if_neg q9] at h; cases h
  rw [if_pos hk101] at h
  refine pG_putI (ci := 10) (f := 5) rfl rfl rfl rfl hk101 (by decide) ?_
  rw [mjLet] at h
  generalize zSi Z a0 5 0 = Z102 at h ⊢
  refine pG_many 2 (pc1 := 7) (L1 := [some (.ref a0), some (.ref p0), none, none, none]) (st1 := [.int 0, .ref a0]) (M1 := mjTo Z102) (fun _ _ => rfl) ?_
  refine pG_putI (ci := 10) (f := 7) rfl rfl rfl rfl hk101 (by decide) ?_
  rw [mjLet] at h
  generalize zSi Z102 a0 7 0 = Z103 at h ⊢
  refine pG_many 4 (pc1 := 14) (L1 := [some (.ref a0), some (.ref p0), some (.int 0), some (.int 0), none]) (st1 := []) (M1 := mjTo Z103) (fun _ _ => rfl) ?_
  exact f135_decideThrough_h14_ok mjF a0 p0 0 0 none Z103 v9 Z9 h
def f136_decide_j227 (R : Nat → Nat → Int32 → mjZt → Option (Unit × mjZt)) (x0 : Nat) (x1 : Nat) (x5 : Int32) (x7 : Int32) (s0 : Nat) (s1 : Int32) (s2 : Int32) (Z : mjZt) : Option (Unit × mjZt) :=
  if mjIs s0 211 13 = true then
  if mjIn s1 (mjLay s0).2 = true then
  mjLet (zSi Z s0 (mjIx s1) s2) fun Z128 =>
  if mjIs x0 211 10 = true then
  if mjCmp .eq x7 0 = true then
    if mjIs (x0 + 4) 211 13 = true then
    if mjIn x5 (mjLay (x0 + 4)).2 = true then
    mjLet (zSi Z128 (x0 + 4) (mjIx x5) 2147483647) fun Z133 =>
    R x0 x1 (x5 + 1) Z133
    else none
    else none
  else
    if mjIs (x0 + 2) 211 13 = true then
    if mjIn x5 (mjLay (x0 + 2)).2 = true then
    if mjIs (x0 + 4) 211 13 = true then
    if mjIn x5 (mjLay (x0 + 4)).2 = true then
    mjLet (zSi Z128 (x0 + 4) (mjIx x5) (Z128.1 (x0 + 2) (mjIx x5))) fun Z138 =>
    R x0 x1 (x5 + 1) Z138
    else none
    else none
    else none
    else none
  else none
  else none
  else none
theorem f136_decide_j227_ok (R : Nat → Nat → Int32 → mjZt → Option (Unit × mjZt)) (hR : ∀ (x0 : Nat) (x1 : Nat) (x5 : Int32) (d2 d3 d4 d6 d7 : Option Value) (Z : mjZt) (v9 : Unit) (Z9 : mjZt), R x0 x1 x5 Z = some (v9, Z9) → pG 125 124 [some (.ref x0), some (.ref x1), d2, d3, d4, some (.int x5), d6, d7] [] (mjTo Z) (fun r M1 => r = none ∧ M1 = mjTo Z9)) (x0 : Nat) (x1 : Nat) (x5 : Int32) (x7 : Int32) (s0 : Nat) (s1 : Int32) (s2 : Int32) (d2 d3 d4 d6 : Option Value) (Z : mjZt) (v9 : Unit) (Z9 : mjZt) (h : f136_decide_j227 R x0 x1 x5 x7 s0 s1 s2 Z = some (v9, Z9)) : pG 125 227 [some (.ref x0), some (.ref x1), d2, d3, d4, some (.int x5), d6, some (.int x7)] [.int s2, .int s1, .ref s0] (mjTo Z) (fun r M1 => r = none ∧ M1 = mjTo Z9) := by
  unfold f136_decide_j227 at h
  have hk126 : mjIs s0 211 13 = true := by
    by_cases q9 : mjIs s0 211 13 = true
    · exact q9
    · rw [if_neg q9] at h; cases h
  rw [if_pos hk126] at h
  have hk127 : mjIn s1 (mjLay s0).2 = true := by
    by_cases q9 : mjIn s1 (mjLay s0).2 = true
    · exact q9
    · rw [if_neg q9] at h; cases h
  rw [if_pos hk127] at h
  refine pG_ias rfl hk126 hk127 (?_ : pG 125 228 [some (.ref x0), some (.ref x1), d2, d3, d4, some (.int x5), d6, some (.int x7)] [] (mjTo (zSi Z s0 (mjIx s1) s2)) _)
  rw [mjLet] at h
  generalize zSi Z s0 (mjIx s1) s2 = Z128 at h ⊢
  refine pG_many 1 (pc1 := 229) (L1 := [some (.ref x0), some (.ref x1), d2, d3, d4, some (.int x5), d6, some (.int x7)]) (st1 := [.ref x0]) (M1 := mjTo Z128) (fun _ _ => rfl) ?_
  have hk129 : mjIs x0 211 10 = true := by
    by_cases q9 : mjIs x0 211 10 = true
    · exact q9
    · rw [if_neg q9] at h; cases h
  rw [if_pos hk129] at h
  refine pG_getR (ci := 10) (f := 3) (b := x0 + 4) rfl rfl rfl hk129 (by decide) (mjRc10_3 hk129) ?_
  refine pG_many 2 (pc1 := 236) (L1 := [some (.ref x0), some (.ref x1), d2, d3, d4, some (.int x5), d6, some (.int x7)]) (st1 := [.int x7, .int x5, .ref (x0 + 4)]) (M1 := mjTo Z128) (fun _ _ => rfl) ?_
  by_cases hc130 : mjCmp .eq x7 0 = true
  · rw [if_pos hc130] at h
    refine pG_ift (t := 249) rfl rfl hc130 ?_
    refine pG_many 1 (pc1 := 251) (L1 := [some (.ref x0), some (.ref x1), d2, d3, d4, some (.int x5), d6, some (.int x7)]) (st1 := [.int 2147483647, .int x5, .ref (x0 + 4)]) (M1 := mjTo Z128) (fun _ _ => rfl) ?_
    have hk131 : mjIs (x0 + 4) 211 13 = true := by
      by_cases q9 : mjIs (x0 + 4) 211 13 = true
      · exact q9
      · rw [if_neg q9] at h; cases h
    rw [if_pos hk131] at h
    have hk132 : mjIn x5 (mjLay (x0 + 4)).2 = true := by
      by_cases q9 : mjIn x5 (mjLay (x0 + 4)).2 = true
      · exact q9
      · rw [if_neg q9] at h; cases h
    rw [if_pos hk132] at h
    refine pG_ias rfl hk131 hk132 (?_ : pG 125 252 [some (.ref x0), some (.ref x1), d2, d3, d4, some (.int x5), d6, some (.int x7)] [] (mjTo (zSi Z128 (x0 + 4) (mjIx x5) 2147483647)) _)
    rw [mjLet] at h
    generalize zSi Z128 (x0 + 4) (mjIx x5) 2147483647 = Z133 at h ⊢
    refine pG_many 2 (pc1 := 124) (L1 := [some (.ref x0), some (.ref x1), d2, d3, (mjK1 d4), some (.int (x5 + 1)), d6, some (.int x7)]) (st1 := []) (M1 := mjTo Z133) (fun _ _ => rfl) ?_
    exact hR x0 x1 (x5 + 1) d2 d3 ((mjK1 d4)) d6 (some (.int x7)) Z133 v9 Z9 h
  · rw [if_neg hc130] at h
    refine pG_iff (t := 249) rfl rfl hc130 ?_
    refine pG_many 1 (pc1 := 240) (L1 := [some (.ref x0), some (.ref x1), d2, d3, d4, some (.int x5), d6, some (.int x7)]) (st1 := [.ref x0, .int x5, .ref (x0 + 4)]) (M1 := mjTo Z128) (fun _ _ => rfl) ?_
    refine pG_getR (ci := 10) (f := 1) (b := x0 + 2) rfl rfl rfl hk129 (by decide) (mjRc10_1 hk129) ?_
    refine pG_many 1 (pc1 := 245) (L1 := [some (.ref x0), some (.ref x1), d2, d3, d4, some (.int x5), d6, some (.int x7)]) (st1 := [.int x5, .ref (x0 + 2), .int x5, .ref (x0 + 4)]) (M1 := mjTo Z128) (fun _ _ => rfl) ?_
    have hk134 : mjIs (x0 + 2) 211 13 = true := by
      by_cases q9 : mjIs (x0 + 2) 211 13 = true
      · exact q9
      · rw [if_neg q9] at h; cases h
    rw [if_pos hk134] at h
    have hk135 : mjIn x5 (mjLay (x0 + 2)).2 = true := by
      by_cases q9 : mjIn x5 (mjLay (x0 + 2)).2 = true
      · exact q9
      · rw [if_neg q9] at h; cases h
    rw [if_pos hk135] at h
    refine pG_ial rfl hk134 hk135 ?_
    refine pG_many 1 (pc1 := 251) (L1 := [some (.ref x0), some (.ref x1), d2, d3, d4, some (.int x5), d6, some (.int x7)]) (st1 := [.int (Z128.1 (x0 + 2) (mjIx x5)), .int x5, .ref (x0 + 4)]) (M1 := mjTo Z128) (fun _ _ => rfl) ?_
    have hk136 : mjIs (x0 + 4) 211 13 = true := by
      by_cases q9 : mjIs (x0 + 4) 211 13 = true
      · exact q9
      · rw [if_neg q9] at h; cases h
    rw [if_pos hk136] at h
    have hk137 : mjIn x5 (mjLay (x0 + 4)).2 = true := by
      by_cases q9 : mjIn x5 (mjLay (x0 + 4)).2 = true
      · exact q9
      · rw [if_neg q9] at h; cases h
    rw [if_pos hk137] at h
    refine pG_ias rfl hk136 hk137 (?_ : pG 125 252 [some (.ref x0), some (.ref x1), d2, d3, d4, some (.int x5), d6, some (.int x7)] [] (mjTo (zSi Z128 (x0 + 4) (mjIx x5) (Z128.1 (x0 + 2) (mjIx x5)))) _)
    rw [mjLet] at h
    generalize zSi Z128 (x0 + 4) (mjIx x5) (Z128.1 (x0 + 2) (mjIx x5)) = Z138 at h ⊢
    refine pG_many 2 (pc1 := 124) (L1 := [some (.ref x0), some (.ref x1), d2, d3, (mjK1 d4), some (.int (x5 + 1)), d6, some (.int x7)]) (st1 := []) (M1 := mjTo Z138) (fun _ _ => rfl) ?_
    exact hR x0 x1 (x5 + 1) d2 d3 ((mjK1 d4)) d6 (some (.int x7)) Z138 v9 Z9 h
def f136_decide_j198 (R : Nat → Nat → Int32 → mjZt → Option (Unit × mjZt)) (x0 : Nat) (x1 : Nat) (x5 : Int32) (x7 : Int32) (s0 : Nat) (s1 : Int32) (s2 : Int32) (Z : mjZt) : Option (Unit × mjZt) :=
  if mjIs s0 211 10 = true then
  mjLet (zSi Z s0 8 (s1 ||| s2)) fun Z123 =>
  if mjIs x0 211 10 = true then
  if mjCmp .eq x7 0 = true then
    f136_decide_j227 R x0 x1 x5 x7 (x0 + 3) x5 2147483647 Z123
  else
    if mjIs x1 211 2 = true then
    mjBp (f8_runner x1 x5 Z123) fun v141 =>
    if mjIs v141 211 7 = true then
    mjBp (f99_time v141 Z123) fun v145 =>
    f136_decide_j227 R x0 x1 x5 x7 (x0 + 3) x5 v145 Z123
    else none
    else none
  else none
  else none
theorem f136_decide_j198_ok (R : Nat → Nat → Int32 → mjZt → Option (Unit × mjZt)) (hR : ∀ (x0 : Nat) (x1 : Nat) (x5 : Int32) (d2 d3 d4 d6 d7 : Option Value) (Z : mjZt) (v9 : Unit) (Z9 : mjZt), R x0 x1 x5 Z = some (v9, Z9) → pG 125 124 [some (.ref x0), some (.ref x1), d2, d3, d4, some (.int x5), d6, d7] [] (mjTo Z) (fun r M1 => r = none ∧ M1 = mjTo Z9)) (x0 : Nat) (x1 : Nat) (x5 : Int32) (x7 : Int32) (s0 : Nat) (s1 : Int32) (s2 : Int32) (d2 d3 d4 d6 : Option Value) (Z : mjZt) (v9 : Unit) (Z9 : mjZt) (h : f136_decide_j198 R x0 x1 x5 x7 s0 s1 s2 Z = some (v9, Z9)) : pG 125 198 [some (.ref x0), some (.ref x1), d2, d3, d4, some (.int x5), d6, some (.int x7)] [.int s2, .int s1, .ref s0] (mjTo Z) (fun r M1 => r = none ∧ M1 = mjTo Z9) := by
  unfold f136_decide_j198 at h
  refine pG_many 1 (pc1 := 199) (L1 := [some (.ref x0), some (.ref x1), d2, d3, d4, some (.int x5), d6, some (.int x7)]) (st1 := [.int (s1 ||| s2), .ref s0]) (M1 := mjTo Z) (fun _ _ => rfl) ?_
  have hk122 : mjIs s0 211 10 = true := by
    by_cases q9 : mjIs s0 211 10 = true
    · exact q9
    · rw [if_neg q9] at h; cases h
  rw [if_pos hk122] at h
  refine pG_putI (ci := 10) (f := 8) rfl rfl rfl rfl hk122 (by decide) ?_
  rw [mjLet] at h
  generalize zSi Z s0 8 (s1 ||| s2) = Z123 at h ⊢
  refine pG_many 1 (pc1 := 203) (L1 := [some (.ref x0), some (.ref x1), d2, d3, d4, some (.int x5), d6, some (.int x7)]) (st1 := [.ref x0]) (M1 := mjTo Z123) (fun _ _ => rfl) ?_
  have hk124 : mjIs x0 211 10 = true := by
    by_cases q9 : mjIs x0 211 10 = true
    · exact q9
    · rw [if_neg q9] at h; cases h
  rw [if_pos hk124] at h
  refine pG_getR (ci := 10) (f := 2) (b := x0 + 3) rfl rfl rfl hk124 (by decide) (mjRc10_2 hk124) ?_
  refine pG_many 2 (pc1 := 210) (L1 := [some (.ref x0), some (.ref x1), d2, d3, d4, some (.int x5), d6, some (.int x7)]) (st1 := [.int x7, .int x5, .ref (x0 + 3)]) (M1 := mjTo Z123) (fun _ _ => rfl) ?_
  by_cases hc125 : mjCmp .eq x7 0 = true
  · rw [if_pos hc125] at h
    refine pG_ift (t := 225) rfl rfl hc125 ?_
    refine pG_many 1 (pc1 := 227) (L1 := [some (.ref x0), some (.ref x1), d2, d3, d4, some (.int x5), d6, some (.int x7)]) (st1 := [.int 2147483647, .int x5, .ref (x0 + 3)]) (M1 := mjTo Z123) (fun _ _ => rfl) ?_
    exact f136_decide_j227_ok R hR x0 x1 x5 x7 (x0 + 3) x5 2147483647 d2 d3 d4 d6 Z123 v9 Z9 h
  · rw [if_neg hc125] at h
    refine pG_iff (t := 225) rfl rfl hc125 ?_
    refine pG_many 2 (pc1 := 216) (L1 := [some (.ref x0), some (.ref x1), d2, d3, d4, some (.int x5), d6, some (.int x7)]) (st1 := [.int x5, .ref x1, .int x5, .ref (x0 + 3)]) (M1 := mjTo Z123) (fun _ _ => rfl) ?_
    have hk139 : mjIs x1 211 2 = true := by
      by_cases q9 : mjIs x1 211 2 = true
      · exact q9
      · rw [if_neg q9] at h; cases h
    rw [if_pos hk139] at h
    cases hq140 : f8_runner x1 x5 Z123 with
    | none => rw [hq140] at h; cases h
    | some v141 =>
      rw [hq140, mjBp_some] at h
      refine pG_callV (k2 := 8) (As := [.ref x1, .int x5]) (rest := [.int x5, .ref (x0 + 3)]) rfl rfl rfl rfl rfl (mjRcv_is hk139 (by decide)) (by decide) (by decide) (f8_runner_ok hq140) ?_
      rintro r9 M9 ⟨rfl, rfl⟩
      show pG 125 219 [some (.ref x0), some (.ref x1), d2, d3, d4, some (.int x5), d6, some (.int x7)] [.ref v141, .int x5, .ref (x0 + 3)] (mjTo Z123) _
      have hk143 : mjIs v141 211 7 = true := by
        by_cases q9 : mjIs v141 211 7 = true
        · exact q9
        · rw [if_neg q9] at h; cases h
      rw [if_pos hk143] at h
      cases hq144 : f99_time v141 Z123 with
      | none => rw [hq144] at h; cases h
      | some v145 =>
        rw [hq144, mjBp_some] at h
        refine pG_callV (k2 := 96) (As := [.ref v141]) (rest := [.int x5, .ref (x0 + 3)]) rfl rfl rfl rfl rfl (mjRcv_is hk143 (by decide)) (by decide) (by decide) (f99_time_ok hq144) ?_
        rintro r9 M9 ⟨rfl, rfl⟩
        show pG 125 222 [some (.ref x0), some (.ref x1), d2, d3, d4, some (.int x5), d6, some (.int x7)] [.int v145, .int x5, .ref (x0 + 3)] (mjTo Z123) _
        refine pG_many 1 (pc1 := 227) (L1 := [some (.ref x0), some (.ref x1), d2, d3, d4, some (.int x5), d6, some (.int x7)]) (st1 := [.int v145, .int x5, .ref (x0 + 3)]) (M1 := mjTo Z123) (fun _ _ => rfl) ?_
        exact f136_decide_j227_ok R hR x0 x1 x5 x7 (x0 + 3) x5 v145 d2 d3 d4 d6 Z123 v9 Z9 h
def f136_decide_j178 (R : Nat → Nat → Int32 → mjZt → Option (Unit × mjZt)) (x0 : Nat) (x1 : Nat) (x5 : Int32) (x6 : Int32) (s0 : Int32) (Z : mjZt) : Option (Unit × mjZt) :=
  if mjIs x0 211 10 = true then
  if mjCmp .eq x6 0 = true then
    f136_decide_j198 R x0 x1 x5 s0 x0 (Z.1 x0 8) 0 Z
  else
    f136_decide_j198 R x0 x1 x5 s0 x0 (Z.1 x0 8) ((1 : Int32) <<< ((x5 : Int32) &&& 31)) Z
  else none
theorem f136_decide_j178_ok (R : Nat → Nat → Int32 → mjZt → Option (Unit × mjZt)) (hR : ∀ (x0 : Nat) (x1 : Nat) (x5 : Int32) (d2 d3 d4 d6 d7 : Option Value) (Z : mjZt) (v9 : Unit) (Z9 : mjZt), R x0 x1 x5 Z = some (v9, Z9) → pG 125 124 [some (.ref x0), some (.ref x1), d2, d3, d4, some (.int x5), d6, d7] [] (mjTo Z) (fun r M1 => r = none ∧ M1 = mjTo Z9)) (x0 : Nat) (x1 : Nat) (x5 : Int32) (x6 : Int32) (s0 : Int32) (d2 d3 d4 d7 : Option Value) (Z : mjZt) (v9 : Unit) (Z9 : mjZt) (h : f136_decide_j178 R x0 x1 x5 x6 s0 Z = some (v9, Z9)) : pG 125 178 [some (.ref x0), some (.ref x1), d2, d3, d4, some (.int x5), some (.int x6), d7] [.int s0] (mjTo Z) (fun r M1 => r = none ∧ M1 = mjTo Z9) := by
  unfold f136_decide_j178 at h
  refine pG_many 3 (pc1 := 182) (L1 := [some (.ref x0), some (.ref x1), d2, d3, d4, some (.int x5), some (.int x6), some (.int s0)]) (st1 := [.ref x0, .ref x0]) (M1 := mjTo Z) (fun _ _ => rfl) ?_
  have hk120 : mjIs x0 211 10 = true := by
    by_cases q9 : mjIs x0 211 10 = true
    · exact q9
    · rw [if_neg q9] at h; cases h
  rw [if_pos hk120] at h
  refine pG_getI (ci := 10) (f := 8) rfl rfl (Or.inl rfl) hk120 (by decide) ?_
  refine pG_many 1 (pc1 := 187) (L1 := [some (.ref x0), some (.ref x1), d2, d3, d4, some (.int x5), some (.int x6), some (.int s0)]) (st1 := [.int x6, .int (Z.1 x0 8), .ref x0]) (M1 := mjTo Z) (fun _ _ => rfl) ?_
  by_cases hc121 : mjCmp .eq x6 0 = true
  · rw [if_pos hc121] at h
    refine pG_ift (t := 197) rfl rfl hc121 ?_
    refine pG_many 1 (pc1 := 198) (L1 := [some (.ref x0), some (.ref x1), d2, d3, d4, some (.int x5), some (.int x6), some (.int s0)]) (st1 := [.int 0, .int (Z.1 x0 8), .ref x0]) (M1 := mjTo Z) (fun _ _ => rfl) ?_
    exact f136_decide_j198_ok R hR x0 x1 x5 s0 x0 (Z.1 x0 8) 0 d2 d3 d4 (some (.int x6)) Z v9 Z9 h
  · rw [if_neg hc121] at h
    refine pG_iff (t := 197) rfl rfl hc121 ?_
    refine pG_many 4 (pc1 := 198) (L1 := [some (.ref x0), some (.ref x1), d2, d3, d4, some (.int x5), some (.int x6), some (.int s0)]) (st1 := [.int ((1 : Int32) <<< ((x5 : Int32) &&& 31)), .int (Z.1 x0 8), .ref x0]) (M1 := mjTo Z) (fun _ _ => rfl) ?_
    exact f136_decide_j198_ok R hR x0 x1 x5 s0 x0 (Z.1 x0 8) ((1 : Int32) <<< ((x5 : Int32) &&& 31)) d2 d3 d4 (some (.int x6)) Z v9 Z9 h
def f136_decide_j177 (R : Nat → Nat → Int32 → mjZt → Option (Unit × mjZt)) (x0 : Nat) (x1 : Nat) (x5 : Int32) (x6 : Int32) (Z : mjZt) : Option (Unit × mjZt) :=
  f136_decide_j178 R x0 x1 x5 x6 0 Z
theorem f136_decide_j177_ok (R : Nat → Nat → Int32 → mjZt → Option (Unit × mjZt)) (hR : ∀ (x0 : Nat) (x1 : Nat) (x5 : Int32) (d2 d3 d4 d6 d7 : Option Value) (Z : mjZt) (v9 : Unit) (Z9 : mjZt), R x0 x1 x5 Z = some (v9, Z9) → pG 125 124 [some (.ref x0), some (.ref x1), d2, d3, d4, some (.int x5), d6, d7] [] (mjTo Z) (fun r M1 => r = none ∧ M1 = mjTo Z9)) (x0 : Nat) (x1 : Nat) (x5 : Int32) (x6 : Int32) (d2 d3 d4 d7 : Option Value) (Z : mjZt) (v9 : Unit) (Z9 : mjZt) (h : f136_decide_j177 R x0 x1 x5 x6 Z = some (v9, Z9)) : pG 125 177 [some (.ref x0), some (.ref x1), d2, d3, d4, some (.int x5), some (.int x6), d7] [] (mjTo Z) (fun r M1 => r = none ∧ M1 = mjTo Z9) := by
  unfold f136_decide_j177 at h
  refine pG_many 1 (pc1 := 178) (L1 := [some (.ref x0), some (.ref x1), d2, d3, d4, some (.int x5), some (.int x6), d7]) (st1 := [.int 0]) (M1 := mjTo Z) (fun _ _ => rfl) ?_
  exact f136_decide_j178_ok R hR x0 x1 x5 x6 0 d2 d3 d4 d7 Z v9 Z9 h
def f136_decide_j154 (R : Nat → Nat → Int32 → mjZt → Option (Unit × mjZt)) (x0 : Nat) (x1 : Nat) (x5 : Int32) (s0 : Int32) (Z : mjZt) : Option (Unit × mjZt) :=
  if mjCmp .eq s0 0 = true then
    f136_decide_j177 R x0 x1 x5 s0 Z
  else
    if mjIs x0 211 10 = true then
    if mjCmp .ne ((((Z.1 x0 4) : Int32) >>> ((x5 : Int32) &&& 31)) &&& 1) 0 = true then
      f136_decide_j177 R x0 x1 x5 s0 Z
    else
      f136_decide_j178 R x0 x1 x5 s0 1 Z
    else none
theorem f136_decide_j154_ok (R : Nat → Nat → Int32 → mjZt → Option (Unit × mjZt)) (hR : ∀ (x0 : Nat) (x1 : Nat) (x5 : Int32) (d2 d3 d4 d6 d7 : Option Value) (Z : mjZt) (v9 : Unit) (Z9 : mjZt), R x0 x1 x5 Z = some (v9, Z9) → pG 125 124 [some (.ref x0), some (.ref x1), d2, d3, d4, some (.int x5), d6, d7] [] (mjTo Z) (fun r M1 => r = none ∧ M1 = mjTo Z9)) (x0 : Nat) (x1 : Nat) (x5 : Int32) (s0 : Int32) (d2 d3 d4 d6 d7 : Option Value) (Z : mjZt) (v9 : Unit) (Z9 : mjZt) (h : f136_decide_j154 R x0 x1 x5 s0 Z = some (v9, Z9)) : pG 125 154 [some (.ref x0), some (.ref x1), d2, d3, d4, some (.int x5), d6, d7] [.int s0] (mjTo Z) (fun r M1 => r = none ∧ M1 = mjTo Z9) := by
  unfold f136_decide_j154 at h
  refine pG_many 2 (pc1 := 158) (L1 := [some (.ref x0), some (.ref x1), d2, d3, d4, some (.int x5), some (.int s0), d7]) (st1 := [.int s0]) (M1 := mjTo Z) (fun _ _ => rfl) ?_
  by_cases hc119 : mjCmp .eq s0 0 = true
  · rw [if_pos hc119] at h
    refine pG_ift (t := 177) rfl rfl hc119 ?_
    exact f136_decide_j177_ok R hR x0 x1 x5 s0 d2 d3 d4 d7 Z v9 Z9 h
  · rw [if_neg hc119] at h
    refine pG_iff (t := 177) rfl rfl hc119 ?_
    refine pG_many 1 (pc1 := 162) (L1 := [some (.ref x0), some (.ref x1), d2, d3, d4, some (.int x5), some (.int s0), d7]) (st1 := [.ref x0]) (M1 := mjTo Z) (fun _ _ => rfl) ?_
    have hk147 : mjIs x0 211 10 = true := by
      by_cases q9 : mjIs x0 211 10 = true
      · exact q9
      · rw [if_neg q9] at h; cases h
    rw [if_pos hk147] at h
    refine pG_getI (ci := 10) (f := 4) rfl rfl (Or.inl rfl) hk147 (by decide) ?_
    refine pG_many 4 (pc1 := 170) (L1 := [some (.ref x0), some (.ref x1), d2, d3, d4, some (.int x5), some (.int s0), d7]) (st1 := [.int ((((Z.1 x0 4) : Int32) >>> ((x5 : Int32) &&& 31)) &&& 1)]) (M1 := mjTo Z) (fun _ _ => rfl) ?_
    by_cases hc148 : mjCmp .ne ((((Z.1 x0 4) : Int32) >>> ((x5 : Int32) &&& 31)) &&& 1) 0 = true
    · rw [if_pos hc148] at h
      refine pG_ift (t := 177) rfl rfl hc148 ?_
      exact f136_decide_j177_ok R hR x0 x1 x5 s0 d2 d3 d4 d7 Z v9 Z9 h
    · rw [if_neg hc148] at h
      refine pG_iff (t := 177) rfl rfl hc148 ?_
      refine pG_many 2 (pc1 := 178) (L1 := [some (.ref x0), some (.ref x1), d2, d3, d4, some (.int x5), some (.int s0), d7]) (st1 := [.int 1]) (M1 := mjTo Z) (fun _ _ => rfl) ?_
      exact f136_decide_j178_ok R hR x0 x1 x5 s0 1 d2 d3 d4 d7 Z v9 Z9 h
def f136_decide_j153 (R : Nat → Nat → Int32 → mjZt → Option (Unit × mjZt)) (x0 : Nat) (x1 : Nat) (x5 : Int32) (Z : mjZt) : Option (Unit × mjZt) :=
  f136_decide_j154 R x0 x1 x5 0 Z
theorem f136_decide_j153_ok (R : Nat → Nat → Int32 → mjZt → Option (Unit × mjZt)) (hR : ∀ (x0 : Nat) (x1 : Nat) (x5 : Int32) (d2 d3 d4 d6 d7 : Option Value) (Z : mjZt) (v9 : Unit) (Z9 : mjZt), R x0 x1 x5 Z = some (v9, Z9) → pG 125 124 [some (.ref x0), some (.ref x1), d2, d3, d4, some (.int x5), d6, d7] [] (mjTo Z) (fun r M1 => r = none ∧ M1 = mjTo Z9)) (x0 : Nat) (x1 : Nat) (x5 : Int32) (d2 d3 d4 d6 d7 : Option Value) (Z : mjZt) (v9 : Unit) (Z9 : mjZt) (h : f136_decide_j153 R x0 x1 x5 Z = some (v9, Z9)) : pG 125 153 [some (.ref x0), some (.ref x1), d2, d3, d4, some (.int x5), d6, d7] [] (mjTo Z) (fun r M1 => r = none ∧ M1 = mjTo Z9) := by
  unfold f136_decide_j153 at h
  refine pG_many 1 (pc1 := 154) (L1 := [some (.ref x0), some (.ref x1), d2, d3, d4, some (.int x5), d6, d7]) (st1 := [.int 0]) (M1 := mjTo Z) (fun _ _ => rfl) ?_
  exact f136_decide_j154_ok R hR x0 x1 x5 0 d2 d3 d4 d6 d7 Z v9 Z9 h
def f136_decide_h124 : Nat → Nat → Nat → Int32 → mjZt → Option (Unit × mjZt)
  | 0, _, _, _, _ => none
  | n + 1, x0, x1, x5, Z =>
    if mjCmp .ge x5 6 = true then
      if mjIs x0 211 10 = true then
      mjBd (f135_decideThrough x0 x1 Z) fun _ Z113 =>
      some ((), Z113)
      else none
    else
      if mjIs x1 211 2 = true then
      mjBp (f7_hasTeam x1 x5 Z) fun v116 =>
      if mjCmp .eq v116 0 = true then
        f136_decide_j153 (f136_decide_h124 n) x0 x1 x5 Z
      else
        mjBp (f23_isWhole x1 x5 Z) fun v150 =>
        if mjCmp .eq v150 0 = true then
          f136_decide_j153 (f136_decide_h124 n) x0 x1 x5 Z
        else
          f136_decide_j154 (f136_decide_h124 n) x0 x1 x5 1 Z
      else none
theorem f136_decide_h124_ok : ∀ (n : Nat) (x0 : Nat) (x1 : Nat) (x5 : Int32) (d2 d3 d4 d6 d7 : Option Value) (Z : mjZt) (v9 : Unit) (Z9 : mjZt), f136_decide_h124 n x0 x1 x5 Z = some (v9, Z9) → pG 125 124 [some (.ref x0), some (.ref x1), d2, d3, d4, some (.int x5), d6, d7] [] (mjTo Z) (fun r M1 => r = none ∧ M1 = mjTo Z9)
  | 0, x0, x1, x5, d2, d3, d4, d6, d7, Z, v9, Z9, h => by rw [f136_decide_h124] at h; cases h
  | n + 1, x0, x1, x5, d2, d3, d4, d6, d7, Z, v9, Z9, h => by
      rw [f136_decide_h124] at h
      refine pG_many 2 (pc1 := 128) (L1 := [some (.ref x0), some (.ref x1), d2, d3, d4, some (.int x5), d6, d7]) (st1 := [.int 6, .int x5]) (M1 := mjTo Z) (fun _ _ => rfl) ?_
      by_cases hc109 : mjCmp .ge x5 6 = true
      · rw [if_pos hc109] at h
        refine pG_cmt (t := 258) rfl rfl hc109 ?_
        refine pG_many 2 (pc1 := 260) (L1 := [some (.ref x0), some (.ref x1), d2, d3, d4, some (.int x5), d6, d7]) (st1 := [.ref x1, .ref x0]) (M1 := mjTo Z) (fun _ _ => rfl) ?_
        have hk110 : mjIs x0 211 10 = true := by
          by_cases q9 : mjIs x0 211 10 = true
          · exact q9
          · rw [if_neg q9] at h; cases h
        rw [if_pos hk110] at h
        cases hq111 : f135_decideThrough x0 x1 Z with
        | none => rw [hq111] at h; cases h
        | some w =>
          obtain ⟨v112, Z113⟩ := w
          rw [hq111, mjBd_some] at h
          refine pG_callV (k2 := 124) (As := [.ref x0, .ref x1]) (rest := []) rfl rfl rfl rfl rfl (mjRcv_is hk110 (by decide)) (by decide) (by decide) (f135_decideThrough_ok hq111) ?_
          rintro r9 M9 ⟨rfl, rfl⟩
          show pG 125 263 [some (.ref x0), some (.ref x1), d2, d3, d4, some (.int x5), d6, d7] [] (mjTo Z113) _
          simp only [Option.some.injEq, Prod.mk.injEq] at h
          obtain ⟨-, rfl⟩ := h
          exact pG_ret (r := none) rfl ⟨rfl, rfl⟩
      · rw [if_neg hc109] at h
        refine pG_cmf (t := 258) rfl rfl hc109 ?_
        refine pG_many 2 (pc1 := 134) (L1 := [some (.ref x0), some (.ref x1), d2, d3, d4, some (.int x5), d6, d7]) (st1 := [.int x5, .ref x1]) (M1 := mjTo Z) (fun _ _ => rfl) ?_
        have hk114 : mjIs x1 211 2 = true := by
          by_cases q9 : mjIs x1 211 2 = true
          · exact q9
          · rw [if_neg q9] at h; cases h
        rw [if_pos hk114] at h
        cases hq115 : f7_hasTeam x1 x5 Z with
        | none => rw [hq115] at h; cases h
        | some v116 =>
          rw [hq115, mjBp_some] at h
          refine pG_callV (k2 := 7) (As := [.ref x1, .int x5]) (rest := []) rfl rfl rfl rfl rfl (mjRcv_is hk114 (by decide)) (by decide) (by decide) (f7_hasTeam_ok hq115) ?_
          rintro r9 M9 ⟨rfl, rfl⟩
          show pG 125 137 [some (.ref x0), some (.ref x1), d2, d3, d4, some (.int x5), d6, d7] [.int v116] (mjTo Z) _
          by_cases hc118 : mjCmp .eq v116 0 = true
          · rw [if_pos hc118] at h
            refine pG_ift (t := 153) rfl rfl hc118 ?_
            exact f136_decide_j153_ok (f136_decide_h124 n) (fun x0 x1 x5 d2 d3 d4 d6 d7 Z v9 Z9 h => f136_decide_h124_ok n x0 x1 x5 d2 d3 d4 d6 d7 Z v9 Z9 h) x0 x1 x5 d2 d3 d4 d6 d7 Z v9 Z9 h
          · rw [if_neg hc118] at h
            refine pG_iff (t := 153) rfl rfl hc118 ?_
            refine pG_many 2 (pc1 := 143) (L1 := [some (.ref x0), some (.ref x1), d2, d3, d4, some (.int x5), d6, d7]) (st1 := [.int x5, .ref x1]) (M1 := mjTo Z) (fun _ _ => rfl) ?_
            cases hq149 : f23_isWhole x1 x5 Z with
            | none => rw [hq149] at h; cases h
            | some v150 =>
              rw [hq149, mjBp_some] at h
              refine pG_callV (k2 := 23) (As := [.ref x1, .int x5]) (rest := []) rfl rfl rfl rfl rfl (mjRcv_is hk114 (by decide)) (by decide) (by decide) (f23_isWhole_ok hq149) ?_
              rintro r9 M9 ⟨rfl, rfl⟩
              show pG 125 146 [some (.ref x0), some (.ref x1), d2, d3, d4, some (.int x5), d6, d7] [.int v150] (mjTo Z) _
              by_cases hc152 : mjCmp .eq v150 0 = true
              · rw [if_pos hc152] at h
                refine pG_ift (t := 153) rfl rfl hc152 ?_
                exact f136_decide_j153_ok (f136_decide_h124 n) (fun x0 x1 x5 d2 d3 d4 d6 d7 Z v9 Z9 h => f136_decide_h124_ok n x0 x1 x5 d2 d3 d4 d6 d7 Z v9 Z9 h) x0 x1 x5 d2 d3 d4 d6 d7 Z v9 Z9 h
              · rw [if_neg hc152] at h
                refine pG_iff (t := 153) rfl rfl hc152 ?_
                refine pG_many 2 (pc1 := 154) (L1 := [some (.ref x0), some (.ref x1), d2, d3, d4, some (.int x5), d6, d7]) (st1 := [.int 1]) (M1 := mjTo Z) (fun _ _ => rfl) ?_
                exact f136_decide_j154_ok (f136_decide_h124 n) (fun x0 x1 x5 d2 d3 d4 d6 d7 Z v9 Z9 h => f136_decide_h124_ok n x0 x1 x5 d2 d3 d4 d6 d7 Z v9 Z9 h) x0 x1 x5 1 d2 d3 d4 d6 d7 Z v9 Z9 h
def f136_decide_j116 (x0 : Nat) (x1 : Nat) (Z : mjZt) : Option (Unit × mjZt) :=
  if mjIs x0 211 10 = true then
  mjLet (zSi Z x0 8 0) fun Z108 =>
  f136_decide_h124 mjF x0 x1 0 Z108
  else none
theorem f136_decide_j116_ok (x0 : Nat) (x1 : Nat) (d2 d3 d4 d5 d6 d7 : Option Value) (Z : mjZt) (v9 : Unit) (Z9 : mjZt) (h : f136_decide_j116 x0 x1 Z = some (v9, Z9)) : pG 125 116 [some (.ref x0), some (.ref x1), d2, d3, d4, d5, d6, d7] [] (mjTo Z) (fun r M1 => r = none ∧ M1 = mjTo Z9) := by
  unfold f136_decide_j116 at h
  refine pG_many 2 (pc1 := 118) (L1 := [some (.ref x0), some (.ref x1), d2, d3, d4, d5, d6, d7]) (st1 := [.int 0, .ref x0]) (M1 := mjTo Z) (fun _ _ => rfl) ?_
  have hk107 : mjIs x0 211 10 = true := by
    by_cases q9 : mjIs x0 211 10 = true
    · exact q9
    · rw [if_neg q9] at h; cases h
  rw [if_pos hk107] at h
  refine pG_putI (ci := 10) (f := 8) rfl rfl rfl rfl hk107 (by decide) ?_
  rw [mjLet] at h
  generalize zSi Z x0 8 0 = Z108 at h ⊢
  refine pG_many 2 (pc1 := 124) (L1 := [some (.ref x0), some (.ref x1), d2, d3, (mjK1 d4), some (.int 0), d6, d7]) (st1 := []) (M1 := mjTo Z108) (fun _ _ => rfl) ?_
  exact f136_decide_h124_ok mjF x0 x1 0 d2 d3 ((mjK1 d4)) d6 d7 Z108 v9 Z9 h
def f136_decide_h45 : Nat → Nat → Nat → Int64 → Int32 → mjZt → Option (Unit × mjZt)
  | 0, _, _, _, _, _ => none
  | n + 1, x0, x1, x3, x5, Z =>
    if mjIs x1 211 2 = true then
    if mjCmp .ge x5 (Z.1 x1 7) = true then
      f136_decide_j116 x0 x1 Z
    else
      if mjCmp .ge x5 42 = true then
        f136_decide_j116 x0 x1 Z
      else
        mjBp (f6_deed x1 x5 Z) fun v155 =>
        if mjIs x0 211 10 = true then
        if mjIs v155 211 0 = true then
        mjBd (f93_rulesStriking x1 x5 (Z.1 v155 3) (Z.1 v155 4) x3 Z) fun v160 Z161 =>
        if mjIs (x0 + 1) 211 13 = true then
        if mjIn x5 (mjLay (x0 + 1)).2 = true then
        mjLet (zSi Z161 (x0 + 1) (mjIx x5) v160) fun Z164 =>
        if mjCmp .eq (Z164.1 (x0 + 1) (mjIx x5)) 0 = true then
          f136_decide_h45 n x0 x1 x3 (x5 + 1) Z164
        else
          mjBd (f132_strike x0 v155 Z164) fun _ Z168 =>
          f136_decide_h45 n x0 x1 x3 (x5 + 1) Z168
        else none
        else none
        else none
        else none
    else none
theorem f136_decide_h45_ok : ∀ (n : Nat) (x0 : Nat) (x1 : Nat) (x3 : Int64) (x5 : Int32) (d4 d6 d7 : Option Value) (Z : mjZt) (v9 : Unit) (Z9 : mjZt), f136_decide_h45 n x0 x1 x3 x5 Z = some (v9, Z9) → pG 125 45 [some (.ref x0), some (.ref x1), some (.ref 190), some (.long x3), d4, some (.int x5), d6, d7] [] (mjTo Z) (fun r M1 => r = none ∧ M1 = mjTo Z9)
  | 0, x0, x1, x3, x5, d4, d6, d7, Z, v9, Z9, h => by rw [f136_decide_h45] at h; cases h
  | n + 1, x0, x1, x3, x5, d4, d6, d7, Z, v9, Z9, h => by
      rw [f136_decide_h45] at h
      refine pG_many 2 (pc1 := 48) (L1 := [some (.ref x0), some (.ref x1), some (.ref 190), some (.long x3), d4, some (.int x5), d6, d7]) (st1 := [.ref x1, .int x5]) (M1 := mjTo Z) (fun _ _ => rfl) ?_
      have hk105 : mjIs x1 211 2 = true := by
        by_cases q9 : mjIs x1 211 2 = true
        · exact q9
        · rw [if_neg q9] at h; cases h
      rw [if_pos hk105] at h
      refine pG_getI (ci := 2) (f := 7) rfl rfl (Or.inl rfl) hk105 (by decide) ?_
      by_cases hc106 : mjCmp .ge x5 (Z.1 x1 7) = true
      · rw [if_pos hc106] at h
        refine pG_cmt (t := 116) rfl rfl hc106 ?_
        exact f136_decide_j116_ok x0 x1 (some (.ref 190)) (some (.long x3)) d4 (some (.int x5)) d6 d7 Z v9 Z9 h
      · rw [if_neg hc106] at h
        refine pG_cmf (t := 116) rfl rfl hc106 ?_
        refine pG_many 2 (pc1 := 58) (L1 := [some (.ref x0), some (.ref x1), some (.ref 190), some (.long x3), d4, some (.int x5), d6, d7]) (st1 := [.int 42, .int x5]) (M1 := mjTo Z) (fun _ _ => rfl) ?_
        by_cases hc153 : mjCmp .ge x5 42 = true
        · rw [if_pos hc153] at h
          refine pG_cmt (t := 116) rfl rfl hc153 ?_
          exact f136_decide_j116_ok x0 x1 (some (.ref 190)) (some (.long x3)) d4 (some (.int x5)) d6 d7 Z v9 Z9 h
        · rw [if_neg hc153] at h
          refine pG_cmf (t := 116) rfl rfl hc153 ?_
          refine pG_many 2 (pc1 := 64) (L1 := [some (.ref x0), some (.ref x1), some (.ref 190), some (.long x3), d4, some (.int x5), d6, d7]) (st1 := [.int x5, .ref x1]) (M1 := mjTo Z) (fun _ _ => rfl) ?_
          cases hq154 : f6_deed x1 x5 Z with
          | none => rw [hq154] at h; cases h
          | some v155 =>
            rw [hq154, mjBp_some] at h
            refine pG_callV (k2 := 6) (As := [.ref x1, .int x5]) (rest := []) rfl rfl rfl rfl rfl (mjRcv_is hk105 (by decide)) (by decide) (by decide) (f6_deed_ok hq154) ?_
            rintro r9 M9 ⟨rfl, rfl⟩
            show pG 125 67 [some (.ref x0), some (.ref x1), some (.ref 190), some (.long x3), d4, some (.int x5), d6, d7] [.ref v155] (mjTo Z) _
            refine pG_many 2 (pc1 := 70) (L1 := [some (.ref x0), some (.ref x1), some (.ref 190), some (.long x3), d4, some (.int x5), some (.ref v155), d7]) (st1 := [.ref x0]) (M1 := mjTo Z) (fun _ _ => rfl) ?_
            have hk157 : mjIs x0 211 10 = true := by
              by_cases q9 : mjIs x0 211 10 = true
              · exact q9
              · rw [if_neg q9] at h; cases h
            rw [if_pos hk157] at h
            refine pG_getR (ci := 10) (f := 0) (b := x0 + 1) rfl rfl rfl hk157 (by decide) (mjRc10_0 hk157) ?_
            refine pG_many 5 (pc1 := 81) (L1 := [some (.ref x0), some (.ref x1), some (.ref 190), some (.long x3), d4, some (.int x5), some (.ref v155), d7]) (st1 := [.ref v155, .int x5, .ref x1, .ref 190, .int x5, .ref (x0 + 1)]) (M1 := mjTo Z) (fun _ _ => rfl) ?_
            have hk158 : mjIs v155 211 0 = true := by
              by_cases q9 : mjIs v155 211 0 = true
              · exact q9
              · rw [if_neg q9] at h; cases h
            rw [if_pos hk158] at h
            refine pG_getI (ci := 0) (f := 3) rfl rfl (Or.inl rfl) hk158 (by decide) ?_
            refine pG_many 1 (pc1 := 86) (L1 := [some (.ref x0), some (.ref x1), some (.ref 190), some (.long x3), d4, some (.int x5), some (.ref v155), d7]) (st1 := [.ref v155, .int (Z.1 v155 3), .int x5, .ref x1, .ref 190, .int x5, .ref (x0 + 1)]) (M1 := mjTo Z) (fun _ _ => rfl) ?_
            refine pG_getI (ci := 0) (f := 4) rfl rfl (Or.inl rfl) hk158 (by decide) ?_
            refine pG_many 1 (pc1 := 90) (L1 := [some (.ref x0), some (.ref x1), some (.ref 190), some (.long x3), d4, some (.int x5), some (.ref v155), d7]) (st1 := [.long x3, .int (Z.1 v155 4), .int (Z.1 v155 3), .int x5, .ref x1, .ref 190, .int x5, .ref (x0 + 1)]) (M1 := mjTo Z) (fun _ _ => rfl) ?_
            cases hq159 : f93_rulesStriking x1 x5 (Z.1 v155 3) (Z.1 v155 4) x3 Z with
            | none => rw [hq159] at h; cases h
            | some w =>
              obtain ⟨v160, Z161⟩ := w
              rw [hq159, mjBd_some] at h
              refine pG_callV (k2 := 92) (As := [.ref 190, .ref x1, .int x5, .int (Z.1 v155 3), .int (Z.1 v155 4), .long x3]) (rest := [.int x5, .ref (x0 + 1)]) rfl rfl rfl rfl rfl (by rfl) (by decide) (by decide) (f93_rulesStriking_ok hq159) ?_
              rintro r9 M9 ⟨rfl, rfl⟩
              show pG 125 93 [some (.ref x0), some (.ref x1), some (.ref 190), some (.long x3), d4, some (.int x5), some (.ref v155), d7] [.int v160, .int x5, .ref (x0 + 1)] (mjTo Z161) _
              have hk162 : mjIs (x0 + 1) 211 13 = true := by
                by_cases q9 : mjIs (x0 + 1) 211 13 = true
                · exact q9
                · rw [if_neg q9] at h; cases h
              rw [if_pos hk162] at h
              have hk163 : mjIn x5 (mjLay (x0 + 1)).2 = true := by
                by_cases q9 : mjIn x5 (mjLay (x0 + 1)).2 = true
                · exact q9
                · rw [if_neg q9] at h; cases h
              rw [if_pos hk163] at h
              refine pG_ias rfl hk162 hk163 (?_ : pG 125 94 [some (.ref x0), some (.ref x1), some (.ref 190), some (.long x3), d4, some (.int x5), some (.ref v155), d7] [] (mjTo (zSi Z161 (x0 + 1) (mjIx x5) v160)) _)
              rw [mjLet] at h
              generalize zSi Z161 (x0 + 1) (mjIx x5) v160 = Z164 at h ⊢
              refine pG_many 1 (pc1 := 95) (L1 := [some (.ref x0), some (.ref x1), some (.ref 190), some (.long x3), d4, some (.int x5), some (.ref v155), d7]) (st1 := [.ref x0]) (M1 := mjTo Z164) (fun _ _ => rfl) ?_
              refine pG_getR (ci := 10) (f := 0) (b := x0 + 1) rfl rfl rfl hk157 (by decide) (mjRc10_0 hk157) ?_
              refine pG_many 1 (pc1 := 100) (L1 := [some (.ref x0), some (.ref x1), some (.ref 190), some (.long x3), d4, some (.int x5), some (.ref v155), d7]) (st1 := [.int x5, .ref (x0 + 1)]) (M1 := mjTo Z164) (fun _ _ => rfl) ?_
              refine pG_ial rfl hk162 hk163 ?_
              by_cases hc165 : mjCmp .eq (Z164.1 (x0 + 1) (mjIx x5)) 0 = true
              · rw [if_pos hc165] at h
                refine pG_ift (t := 110) rfl rfl hc165 ?_
                refine pG_many 2 (pc1 := 45) (L1 := [some (.ref x0), some (.ref x1), some (.ref 190), some (.long x3), (mjK1 d4), some (.int (x5 + 1)), some (.ref v155), d7]) (st1 := []) (M1 := mjTo Z164) (fun _ _ => rfl) ?_
                exact f136_decide_h45_ok n x0 x1 x3 (x5 + 1) ((mjK1 d4)) (some (.ref v155)) d7 Z164 v9 Z9 h
              · rw [if_neg hc165] at h
                refine pG_iff (t := 110) rfl rfl hc165 ?_
                refine pG_many 2 (pc1 := 107) (L1 := [some (.ref x0), some (.ref x1), some (.ref 190), some (.long x3), d4, some (.int x5), some (.ref v155), d7]) (st1 := [.ref v155, .ref x0]) (M1 := mjTo Z164) (fun _ _ => rfl) ?_
                cases hq166 : f132_strike x0 v155 Z164 with
                | none => rw [hq166] at h; cases h
                | some w =>
                  obtain ⟨v167, Z168⟩ := w
                  rw [hq166, mjBd_some] at h
                  refine pG_callV (k2 := 121) (As := [.ref x0, .ref v155]) (rest := []) rfl rfl rfl rfl rfl (mjRcv_is hk157 (by decide)) (by decide) (by decide) (f132_strike_ok hq166) ?_
                  rintro r9 M9 ⟨rfl, rfl⟩
                  show pG 125 110 [some (.ref x0), some (.ref x1), some (.ref 190), some (.long x3), d4, some (.int x5), some (.ref v155), d7] [] (mjTo Z168) _
                  refine pG_many 2 (pc1 := 45) (L1 := [some (.ref x0), some (.ref x1), some (.ref 190), some (.long x3), (mjK1 d4), some (.int (x5 + 1)), some (.ref v155), d7]) (st1 := []) (M1 := mjTo Z168) (fun _ _ => rfl) ?_
                  exact f136_decide_h45_ok n x0 x1 x3 (x5 + 1) ((mjK1 d4)) (some (.ref v155)) d7 Z168 v9 Z9 h
def f136_decide_h13 : Nat → Nat → Nat → Int64 → Int32 → mjZt → Option (Unit × mjZt)
  | 0, _, _, _, _, _ => none
  | n + 1, x0, x1, x3, x5, Z =>
    if mjCmp .ge x5 6 = true then
      f136_decide_h45 mjF x0 x1 x3 0 Z
    else
      if mjIs x0 211 10 = true then
      if mjIs x1 211 2 = true then
      mjBp (f8_runner x1 x5 Z) fun v172 =>
      if mjIs v172 211 7 = true then
      mjBp (f99_time v172 Z) fun v176 =>
      if mjIs (x0 + 2) 211 13 = true then
      if mjIn x5 (mjLay (x0 + 2)).2 = true then
      mjLet (zSi Z (x0 + 2) (mjIx x5) v176) fun Z180 =>
      f136_decide_h13 n x0 x1 x3 (x5 + 1) Z180
      else none
      else none
      else none
      else none
      else none
theorem f136_decide_h13_ok : ∀ (n : Nat) (x0 : Nat) (x1 : Nat) (x3 : Int64) (x5 : Int32) (d4 d6 d7 : Option Value) (Z : mjZt) (v9 : Unit) (Z9 : mjZt), f136_decide_h13 n x0 x1 x3 x5 Z = some (v9, Z9) → pG 125 13 [some (.ref x0), some (.ref x1), some (.ref 190), some (.long x3), d4, some (.int x5), d6, d7] [] (mjTo Z) (fun r M1 => r = none ∧ M1 = mjTo Z9)
  | 0, x0, x1, x3, x5, d4, d6, d7, Z, v9, Z9, h => by rw [f136_decide_h13] at h; cases h
  | n + 1, x0, x1, x3, x5, d4, d6, d7, Z, v9, Z9, h => by
      rw [f136_decide_h13] at h
      refine pG_many 2 (pc1 := 17) (L1 := [some (.ref x0), some (.ref x1), some (.ref 190), some (.long x3), d4, some (.int x5), d6, d7]) (st1 := [.int 6, .int x5]) (M1 := mjTo Z) (fun _ _ => rfl) ?_
      by_cases hc104 : mjCmp .ge x5 6 = true
      · rw [if_pos hc104] at h
        refine pG_cmt (t := 42) rfl rfl hc104 ?_
        refine pG_many 2 (pc1 := 45) (L1 := [some (.ref x0), some (.ref x1), some (.ref 190), some (.long x3), (mjK1 d4), some (.int 0), d6, d7]) (st1 := []) (M1 := mjTo Z) (fun _ _ => rfl) ?_
        exact f136_decide_h45_ok mjF x0 x1 x3 0 ((mjK1 d4)) d6 d7 Z v9 Z9 h
      · rw [if_neg hc104] at h
        refine pG_cmf (t := 42) rfl rfl hc104 ?_
        refine pG_many 1 (pc1 := 21) (L1 := [some (.ref x0), some (.ref x1), some (.ref 190), some (.long x3), d4, some (.int x5), d6, d7]) (st1 := [.ref x0]) (M1 := mjTo Z) (fun _ _ => rfl) ?_
        have hk169 : mjIs x0 211 10 = true := by
          by_cases q9 : mjIs x0 211 10 = true
          · exact q9
          · rw [if_neg q9] at h; cases h
        rw [if_pos hk169] at h
        refine pG_getR (ci := 10) (f := 1) (b := x0 + 2) rfl rfl rfl hk169 (by decide) (mjRc10_1 hk169) ?_
        refine pG_many 3 (pc1 := 29) (L1 := [some (.ref x0), some (.ref x1), some (.ref 190), some (.long x3), d4, some (.int x5), d6, d7]) (st1 := [.int x5, .ref x1, .int x5, .ref (x0 + 2)]) (M1 := mjTo Z) (fun _ _ => rfl) ?_
        have hk170 : mjIs x1 211 2 = true := by
          by_cases q9 : mjIs x1 211 2 = true
          · exact q9
          · rw [if_neg q9] at h; cases h
        rw [if_pos hk170] at h
        cases hq171 : f8_runner x1 x5 Z with
        | none => rw [hq171] at h; cases h
        | some v172 =>
          rw [hq171, mjBp_some] at h
          refine pG_callV (k2 := 8) (As := [.ref x1, .int x5]) (rest := [.int x5, .ref (x0 + 2)]) rfl rfl rfl rfl rfl (mjRcv_is hk170 (by decide)) (by decide) (by decide) (f8_runner_ok hq171) ?_
          rintro r9 M9 ⟨rfl, rfl⟩
          show pG 125 32 [some (.ref x0), some (.ref x1), some (.ref 190), some (.long x3), d4, some (.int x5), d6, d7] [.ref v172, .int x5, .ref (x0 + 2)] (mjTo Z) _
          have hk174 : mjIs v172 211 7 = true := by
            by_cases q9 : mjIs v172 211 7 = true
            · exact q9
            · rw [if_neg q9] at h; cases h
          rw [if_pos hk174] at h
          cases hq175 : f99_time v172 Z with
          | none => rw [hq175] at h; cases h
          | some v176 =>
            rw [hq175, mjBp_some] at h
            refine pG_callV (k2 := 96) (As := [.ref v172]) (rest := [.int x5, .ref (x0 + 2)]) rfl rfl rfl rfl rfl (mjRcv_is hk174 (by decide)) (by decide) (by decide) (f99_time_ok hq175) ?_
            rintro r9 M9 ⟨rfl, rfl⟩
            show pG 125 35 [some (.ref x0), some (.ref x1), some (.ref 190), some (.long x3), d4, some (.int x5), d6, d7] [.int v176, .int x5, .ref (x0 + 2)] (mjTo Z) _
            have hk178 : mjIs (x0 + 2) 211 13 = true := by
              by_cases q9 : mjIs (x0 + 2) 211 13 = true
              · exact q9
              · rw [if_neg q9] at h; cases h
            rw [if_pos hk178] at h
            have hk179 : mjIn x5 (mjLay (x0 + 2)).2 = true := by
              by_cases q9 : mjIn x5 (mjLay (x0 + 2)).2 = true
              · exact q9
              · rw [if_neg q9] at h; cases h
            rw [if_pos hk179] at h
            refine pG_ias rfl hk178 hk179 (?_ : pG 125 36 [some (.ref x0), some (.ref x1), some (.ref 190), some (.long x3), d4, some (.int x5), d6, d7] [] (mjTo (zSi Z (x0 + 2) (mjIx x5) v176)) _)
            rw [mjLet] at h
            generalize zSi Z (x0 + 2) (mjIx x5) v176 = Z180 at h ⊢
            refine pG_many 2 (pc1 := 13) (L1 := [some (.ref x0), some (.ref x1), some (.ref 190), some (.long x3), (mjK1 d4), some (.int (x5 + 1)), d6, d7]) (st1 := []) (M1 := mjTo Z180) (fun _ _ => rfl) ?_
            exact f136_decide_h13_ok n x0 x1 x3 (x5 + 1) ((mjK1 d4)) d6 d7 Z180 v9 Z9 h
def f136_decide (a0 : Nat) (p0 : Nat) (p2 : Int64) (Z : mjZt) : Option (Unit × mjZt) :=
  if mjIs a0 211 10 = true then
  mjLet (zSi Z a0 4 0) fun Z102 =>
  mjLet (zSi Z102 a0 6 0) fun Z103 =>
  f136_decide_h13 mjF a0 p0 p2 0 Z103
  else none
theorem f136_decide_ok {a0 : Nat} {p0 : Nat} {p2 : Int64} {Z : mjZt} {v9 : Unit} {Z9 : mjZt} (h : f136_decide a0 p0 p2 Z = some (v9, Z9)) : pG 125 0 (mjEnt [.ref a0, .ref p0, .ref 190, .long p2] (mjML 125)) [] (mjTo Z) (fun r M1 => r = none ∧ M1 = mjTo Z9) := by
  unfold f136_decide at h
  show pG 125 0 [some (.ref a0), some (.ref p0), some (.ref 190), some (.long p2), none, none, none, none] [] (mjTo Z) _
  refine pG_many 2 (pc1 := 2) (L1 := [some (.ref a0), some (.ref p0), some (.ref 190), some (.long p2), none, none, none, none]) (st1 := [.int 0, .ref a0]) (M1 := mjTo Z) (fun _ _ => rfl) ?_
  have hk101 : mjIs a0 211 10 = true := by
    by_cases q9 : mjIs a0 211 10 = true
    · exact q9
    · rw [if_neg q9] at h; cases h
  rw [if_pos hk101] at h
  refine pG_putI (ci := 10) (f := 4) rfl rfl rfl rfl hk101 (by decide) ?_
  rw [mjLet] at h
  generalize zSi Z a0 4 0 = Z102 at h ⊢
  refine pG_many 2 (pc1 := 7) (L1 := [some (.ref a0), some (.ref p0), some (.ref 190), some (.long p2), none, none, none, none]) (st1 := [.int 0, .ref a0]) (M1 := mjTo Z102) (fun _ _ => rfl) ?_
  refine pG_putI (ci := 10) (f := 6) rfl rfl rfl rfl hk101 (by decide) ?_
  rw [mjLet] at h
  generalize zSi Z102 a0 6 0 = Z103 at h ⊢
  refine pG_many 2 (pc1 := 13) (L1 := [some (.ref a0), some (.ref p0), some (.ref 190), some (.long p2), none, some (.int 0), none, none]) (st1 := []) (M1 := mjTo Z103) (fun _ _ => rfl) ?_
  exact f136_decide_h13_ok mjF a0 p0 p2 0 none none none Z103 v9 Z9 h
def f137_rankByTime (a0 : Nat) (p0 : Int32) (Z : mjZt) : Option Int32 :=
  if mjIs a0 211 10 = true then
  mjBp (f133_isIn a0 p0 Z) fun v103 =>
  if mjCmp .eq v103 0 = true then
    some ((-2))
  else
    mjBp (f134_rankOf (a0 + 3) p0 Z) fun v107 =>
    some v107
  else none
theorem f137_rankByTime_ok {a0 : Nat} {p0 : Int32} {Z : mjZt} {v9 : Int32} (h : f137_rankByTime a0 p0 Z = some v9) : pG 126 0 (mjEnt [.ref a0, .int p0] (mjML 126)) [] (mjTo Z) (fun r M1 => r = some (.int v9) ∧ M1 = mjTo Z) := by
  unfold f137_rankByTime at h
  show pG 126 0 [some (.ref a0), some (.int p0)] [] (mjTo Z) _
  refine pG_many 2 (pc1 := 2) (L1 := [some (.ref a0), some (.int p0)]) (st1 := [.int p0, .ref a0]) (M1 := mjTo Z) (fun _ _ => rfl) ?_
  have hk101 : mjIs a0 211 10 = true := by
    by_cases q9 : mjIs a0 211 10 = true
    · exact q9
    · rw [if_neg q9] at h; cases h
  rw [if_pos hk101] at h
  cases hq102 : f133_isIn a0 p0 Z with
  | none => rw [hq102] at h; cases h
  | some v103 =>
    rw [hq102, mjBp_some] at h
    refine pG_callV (k2 := 122) (As := [.ref a0, .int p0]) (rest := []) rfl rfl rfl rfl rfl (mjRcv_is hk101 (by decide)) (by decide) (by decide) (f133_isIn_ok hq102) ?_
    rintro r9 M9 ⟨rfl, rfl⟩
    show pG 126 5 [some (.ref a0), some (.int p0)] [.int v103] (mjTo Z) _
    by_cases hc105 : mjCmp .eq v103 0 = true
    · rw [if_pos hc105] at h
      refine pG_ift (t := 19) rfl rfl hc105 ?_
      refine pG_many 1 (pc1 := 21) (L1 := [some (.ref a0), some (.int p0)]) (st1 := [.int ((-2))]) (M1 := mjTo Z) (fun _ _ => rfl) ?_
      simp only [Option.some.injEq] at h
      subst h
      exact pG_ret (r := some (.int ((-2)))) rfl ⟨rfl, rfl⟩
    · rw [if_neg hc105] at h
      refine pG_iff (t := 19) rfl rfl hc105 ?_
      refine pG_many 1 (pc1 := 9) (L1 := [some (.ref a0), some (.int p0)]) (st1 := [.ref a0]) (M1 := mjTo Z) (fun _ _ => rfl) ?_
      refine pG_getR (ci := 10) (f := 2) (b := a0 + 3) rfl rfl rfl hk101 (by decide) (mjRc10_2 hk101) ?_
      refine pG_many 1 (pc1 := 13) (L1 := [some (.ref a0), some (.int p0)]) (st1 := [.int p0, .ref (a0 + 3)]) (M1 := mjTo Z) (fun _ _ => rfl) ?_
      cases hq106 : f134_rankOf (a0 + 3) p0 Z with
      | none => rw [hq106] at h; cases h
      | some v107 =>
        rw [hq106, mjBp_some] at h
        refine pG_call (k2 := 123) (As := [.ref (a0 + 3), .int p0]) (rest := []) (fun _ _ => rfl) (by decide) (by decide) (f134_rankOf_ok hq106) ?_
        rintro r9 M9 ⟨rfl, rfl⟩
        show pG 126 16 [some (.ref a0), some (.int p0)] [.int v107] (mjTo Z) _
        refine pG_many 1 (pc1 := 21) (L1 := [some (.ref a0), some (.int p0)]) (st1 := [.int v107]) (M1 := mjTo Z) (fun _ _ => rfl) ?_
        simp only [Option.some.injEq] at h
        subst h
        exact pG_ret (r := some (.int v107)) rfl ⟨rfl, rfl⟩
def f139_wouldOf (a0 : Nat) (p0 : Int32) (Z : mjZt) : Option Int32 :=
  if mjIs a0 211 10 = true then
  mjBp (f5_at (a0 + 2) p0 Z) fun v103 =>
  some v103
  else none
theorem f139_wouldOf_ok {a0 : Nat} {p0 : Int32} {Z : mjZt} {v9 : Int32} (h : f139_wouldOf a0 p0 Z = some v9) : pG 127 0 (mjEnt [.ref a0, .int p0] (mjML 127)) [] (mjTo Z) (fun r M1 => r = some (.int v9) ∧ M1 = mjTo Z) := by
  unfold f139_wouldOf at h
  show pG 127 0 [some (.ref a0), some (.int p0)] [] (mjTo Z) _
  refine pG_many 1 (pc1 := 1) (L1 := [some (.ref a0), some (.int p0)]) (st1 := [.ref a0]) (M1 := mjTo Z) (fun _ _ => rfl) ?_
  have hk101 : mjIs a0 211 10 = true := by
    by_cases q9 : mjIs a0 211 10 = true
    · exact q9
    · rw [if_neg q9] at h; cases h
  rw [if_pos hk101] at h
  refine pG_getR (ci := 10) (f := 1) (b := a0 + 2) rfl rfl rfl hk101 (by decide) (mjRc10_1 hk101) ?_
  refine pG_many 1 (pc1 := 5) (L1 := [some (.ref a0), some (.int p0)]) (st1 := [.int p0, .ref (a0 + 2)]) (M1 := mjTo Z) (fun _ _ => rfl) ?_
  cases hq102 : f5_at (a0 + 2) p0 Z with
  | none => rw [hq102] at h; cases h
  | some v103 =>
    rw [hq102, mjBp_some] at h
    refine pG_call (k2 := 5) (As := [.ref (a0 + 2), .int p0]) (rest := []) (fun _ _ => rfl) (by decide) (by decide) (f5_at_ok hq102) ?_
    rintro r9 M9 ⟨rfl, rfl⟩
    show pG 127 8 [some (.ref a0), some (.int p0)] [.int v103] (mjTo Z) _
    simp only [Option.some.injEq] at h
    subst h
    exact pG_ret (r := some (.int v103)) rfl ⟨rfl, rfl⟩
def f140_kthOfResult (a0 : Nat) (p0 : Nat) (p1 : Int32) (Z : mjZt) : Option Int32 :=
  if mjIs a0 211 10 = true then
  if mjIs p0 211 2 = true then
  mjBp (f44_kth p0 (a0 + 3) p1 Z) fun v104 =>
  some v104
  else none
  else none
theorem f140_kthOfResult_ok {a0 : Nat} {p0 : Nat} {p1 : Int32} {Z : mjZt} {v9 : Int32} (h : f140_kthOfResult a0 p0 p1 Z = some v9) : pG 128 0 (mjEnt [.ref a0, .ref p0, .int p1] (mjML 128)) [] (mjTo Z) (fun r M1 => r = some (.int v9) ∧ M1 = mjTo Z) := by
  unfold f140_kthOfResult at h
  show pG 128 0 [some (.ref a0), some (.ref p0), some (.int p1)] [] (mjTo Z) _
  refine pG_many 2 (pc1 := 2) (L1 := [some (.ref a0), some (.ref p0), some (.int p1)]) (st1 := [.ref a0, .ref p0]) (M1 := mjTo Z) (fun _ _ => rfl) ?_
  have hk101 : mjIs a0 211 10 = true := by
    by_cases q9 : mjIs a0 211 10 = true
    · exact q9
    · rw [if_neg q9] at h; cases h
  rw [if_pos hk101] at h
  refine pG_getR (ci := 10) (f := 2) (b := a0 + 3) rfl rfl rfl hk101 (by decide) (mjRc10_2 hk101) ?_
  refine pG_many 1 (pc1 := 6) (L1 := [some (.ref a0), some (.ref p0), some (.int p1)]) (st1 := [.int p1, .ref (a0 + 3), .ref p0]) (M1 := mjTo Z) (fun _ _ => rfl) ?_
  have hk102 : mjIs p0 211 2 = true := by
    by_cases q9 : mjIs p0 211 2 = true
    · exact q9
    · rw [if_neg q9] at h; cases h
  rw [if_pos hk102] at h
  cases hq103 : f44_kth p0 (a0 + 3) p1 Z with
  | none => rw [hq103] at h; cases h
  | some v104 =>
    rw [hq103, mjBp_some] at h
    refine pG_callV (k2 := 44) (As := [.ref p0, .ref (a0 + 3), .int p1]) (rest := []) rfl rfl rfl rfl rfl (mjRcv_is hk102 (by decide)) (by decide) (by decide) (f44_kth_ok hq103) ?_
    rintro r9 M9 ⟨rfl, rfl⟩
    show pG 128 9 [some (.ref a0), some (.ref p0), some (.int p1)] [.int v104] (mjTo Z) _
    simp only [Option.some.injEq] at h
    subst h
    exact pG_ret (r := some (.int v104)) rfl ⟨rfl, rfl⟩
def f141_isRunAgain_j26 (x0 : Nat) (s0 : Int32) (Z : mjZt) : Option Int32 :=
  if mjIs x0 211 10 = true then
  if mjCmp .eq (Z.1 x0 8) 0 = true then
    some 0
  else
    if mjCmp .ne s0 0 = true then
      some 1
    else
      mjBp (f323_bitCount (Z.1 x0 7) Z) fun v107 =>
      if mjCmp .lt v107 2 = true then
        some 0
      else
        some 1
  else none
theorem f141_isRunAgain_j26_ok (x0 : Nat) (s0 : Int32) (d1 : Option Value) (Z : mjZt) (v9 : Int32) (h : f141_isRunAgain_j26 x0 s0 Z = some v9) : pG 129 26 [some (.ref x0), d1] [.int s0] (mjTo Z) (fun r M1 => r = some (.int v9) ∧ M1 = mjTo Z) := by
  unfold f141_isRunAgain_j26 at h
  refine pG_many 2 (pc1 := 28) (L1 := [some (.ref x0), some (.int s0)]) (st1 := [.ref x0]) (M1 := mjTo Z) (fun _ _ => rfl) ?_
  have hk103 : mjIs x0 211 10 = true := by
    by_cases q9 : mjIs x0 211 10 = true
    · exact q9
    · rw [if_neg q9] at h; cases h
  rw [if_pos hk103] at h
  refine pG_getI (ci := 10) (f := 8) rfl rfl (Or.inl rfl) hk103 (by decide) ?_
  by_cases hc104 : mjCmp .eq (Z.1 x0 8) 0 = true
  · rw [if_pos hc104] at h
    refine pG_ift (t := 53) rfl rfl hc104 ?_
    refine pG_many 1 (pc1 := 54) (L1 := [some (.ref x0), some (.int s0)]) (st1 := [.int 0]) (M1 := mjTo Z) (fun _ _ => rfl) ?_
    simp only [Option.some.injEq] at h
    subst h
    exact pG_ret (r := some (.int 0)) rfl ⟨rfl, rfl⟩
  · rw [if_neg hc104] at h
    refine pG_iff (t := 53) rfl rfl hc104 ?_
    refine pG_many 1 (pc1 := 35) (L1 := [some (.ref x0), some (.int s0)]) (st1 := [.int s0]) (M1 := mjTo Z) (fun _ _ => rfl) ?_
    by_cases hc105 : mjCmp .ne s0 0 = true
    · rw [if_pos hc105] at h
      refine pG_ift (t := 49) rfl rfl hc105 ?_
      refine pG_many 2 (pc1 := 54) (L1 := [some (.ref x0), some (.int s0)]) (st1 := [.int 1]) (M1 := mjTo Z) (fun _ _ => rfl) ?_
      simp only [Option.some.injEq] at h
      subst h
      exact pG_ret (r := some (.int 1)) rfl ⟨rfl, rfl⟩
    · rw [if_neg hc105] at h
      refine pG_iff (t := 49) rfl rfl hc105 ?_
      refine pG_many 1 (pc1 := 39) (L1 := [some (.ref x0), some (.int s0)]) (st1 := [.ref x0]) (M1 := mjTo Z) (fun _ _ => rfl) ?_
      refine pG_getI (ci := 10) (f := 7) rfl rfl (Or.inl rfl) hk103 (by decide) ?_
      cases hq106 : f323_bitCount (Z.1 x0 7) Z with
      | none => rw [hq106] at h; cases h
      | some v107 =>
        rw [hq106, mjBp_some] at h
        refine pG_call (k2 := 166) (As := [.int (Z.1 x0 7)]) (rest := []) (fun _ _ => rfl) (by decide) (by decide) (f323_bitCount_ok hq106) ?_
        rintro r9 M9 ⟨rfl, rfl⟩
        show pG 129 45 [some (.ref x0), some (.int s0)] [.int v107] (mjTo Z) _
        refine pG_many 1 (pc1 := 46) (L1 := [some (.ref x0), some (.int s0)]) (st1 := [.int 2, .int v107]) (M1 := mjTo Z) (fun _ _ => rfl) ?_
        by_cases hc109 : mjCmp .lt v107 2 = true
        · rw [if_pos hc109] at h
          refine pG_cmt (t := 53) rfl rfl hc109 ?_
          refine pG_many 1 (pc1 := 54) (L1 := [some (.ref x0), some (.int s0)]) (st1 := [.int 0]) (M1 := mjTo Z) (fun _ _ => rfl) ?_
          simp only [Option.some.injEq] at h
          subst h
          exact pG_ret (r := some (.int 0)) rfl ⟨rfl, rfl⟩
        · rw [if_neg hc109] at h
          refine pG_cmf (t := 53) rfl rfl hc109 ?_
          refine pG_many 2 (pc1 := 54) (L1 := [some (.ref x0), some (.int s0)]) (st1 := [.int 1]) (M1 := mjTo Z) (fun _ _ => rfl) ?_
          simp only [Option.some.injEq] at h
          subst h
          exact pG_ret (r := some (.int 1)) rfl ⟨rfl, rfl⟩
def f141_isRunAgain (a0 : Nat) (Z : mjZt) : Option Int32 :=
  if mjIs a0 211 10 = true then
  if mjCmp .ne (((Z.1 a0 8) &&& ((Z.1 a0 4) ^^^ ((-1)))) &&& ((Z.1 a0 6) ^^^ ((-1)))) 0 = true then
    f141_isRunAgain_j26 a0 0 Z
  else
    f141_isRunAgain_j26 a0 1 Z
  else none
theorem f141_isRunAgain_ok {a0 : Nat} {Z : mjZt} {v9 : Int32} (h : f141_isRunAgain a0 Z = some v9) : pG 129 0 (mjEnt [.ref a0] (mjML 129)) [] (mjTo Z) (fun r M1 => r = some (.int v9) ∧ M1 = mjTo Z) := by
  unfold f141_isRunAgain at h
  show pG 129 0 [some (.ref a0), none] [] (mjTo Z) _
  refine pG_many 1 (pc1 := 1) (L1 := [some (.ref a0), none]) (st1 := [.ref a0]) (M1 := mjTo Z) (fun _ _ => rfl) ?_
  have hk101 : mjIs a0 211 10 = true := by
    by_cases q9 : mjIs a0 211 10 = true
    · exact q9
    · rw [if_neg q9] at h; cases h
  rw [if_pos hk101] at h
  refine pG_getI (ci := 10) (f := 8) rfl rfl (Or.inl rfl) hk101 (by decide) ?_
  refine pG_many 1 (pc1 := 5) (L1 := [some (.ref a0), none]) (st1 := [.ref a0, .int (Z.1 a0 8)]) (M1 := mjTo Z) (fun _ _ => rfl) ?_
  refine pG_getI (ci := 10) (f := 4) rfl rfl (Or.inl rfl) hk101 (by decide) ?_
  refine pG_many 4 (pc1 := 12) (L1 := [some (.ref a0), none]) (st1 := [.ref a0, .int ((Z.1 a0 8) &&& ((Z.1 a0 4) ^^^ ((-1))))]) (M1 := mjTo Z) (fun _ _ => rfl) ?_
  refine pG_getI (ci := 10) (f := 6) rfl rfl (Or.inl rfl) hk101 (by decide) ?_
  refine pG_many 3 (pc1 := 18) (L1 := [some (.ref a0), none]) (st1 := [.int (((Z.1 a0 8) &&& ((Z.1 a0 4) ^^^ ((-1)))) &&& ((Z.1 a0 6) ^^^ ((-1))))]) (M1 := mjTo Z) (fun _ _ => rfl) ?_
  by_cases hc102 : mjCmp .ne (((Z.1 a0 8) &&& ((Z.1 a0 4) ^^^ ((-1)))) &&& ((Z.1 a0 6) ^^^ ((-1)))) 0 = true
  · rw [if_pos hc102] at h
    refine pG_ift (t := 25) rfl rfl hc102 ?_
    refine pG_many 1 (pc1 := 26) (L1 := [some (.ref a0), none]) (st1 := [.int 0]) (M1 := mjTo Z) (fun _ _ => rfl) ?_
    exact f141_isRunAgain_j26_ok a0 0 none Z v9 h
  · rw [if_neg hc102] at h
    refine pG_iff (t := 25) rfl rfl hc102 ?_
    refine pG_many 2 (pc1 := 26) (L1 := [some (.ref a0), none]) (st1 := [.int 1]) (M1 := mjTo Z) (fun _ _ => rfl) ?_
    exact f141_isRunAgain_j26_ok a0 1 none Z v9 h
def f142_rulesStriking (a0 : Nat) (p0 : Int32) (Z : mjZt) : Option Int32 :=
  if mjIs a0 211 10 = true then
  mjBp (f5_at (a0 + 1) p0 Z) fun v103 =>
  some v103
  else none
theorem f142_rulesStriking_ok {a0 : Nat} {p0 : Int32} {Z : mjZt} {v9 : Int32} (h : f142_rulesStriking a0 p0 Z = some v9) : pG 130 0 (mjEnt [.ref a0, .int p0] (mjML 130)) [] (mjTo Z) (fun r M1 => r = some (.int v9) ∧ M1 = mjTo Z) := by
  unfold f142_rulesStriking at h
  show pG 130 0 [some (.ref a0), some (.int p0)] [] (mjTo Z) _
  refine pG_many 1 (pc1 := 1) (L1 := [some (.ref a0), some (.int p0)]) (st1 := [.ref a0]) (M1 := mjTo Z) (fun _ _ => rfl) ?_
  have hk101 : mjIs a0 211 10 = true := by
    by_cases q9 : mjIs a0 211 10 = true
    · exact q9
    · rw [if_neg q9] at h; cases h
  rw [if_pos hk101] at h
  refine pG_getR (ci := 10) (f := 0) (b := a0 + 1) rfl rfl rfl hk101 (by decide) (mjRc10_0 hk101) ?_
  refine pG_many 1 (pc1 := 5) (L1 := [some (.ref a0), some (.int p0)]) (st1 := [.int p0, .ref (a0 + 1)]) (M1 := mjTo Z) (fun _ _ => rfl) ?_
  cases hq102 : f5_at (a0 + 1) p0 Z with
  | none => rw [hq102] at h; cases h
  | some v103 =>
    rw [hq102, mjBp_some] at h
    refine pG_call (k2 := 5) (As := [.ref (a0 + 1), .int p0]) (rest := []) (fun _ _ => rfl) (by decide) (by decide) (f5_at_ok hq102) ?_
    rintro r9 M9 ⟨rfl, rfl⟩
    show pG 130 8 [some (.ref a0), some (.int p0)] [.int v103] (mjTo Z) _
    simp only [Option.some.injEq] at h
    subst h
    exact pG_ret (r := some (.int v103)) rfl ⟨rfl, rfl⟩
def f143_firstRuleStriking_h2 : Nat → Nat → Int32 → Int32 → mjZt → Option Int32
  | 0, _, _, _, _ => none
  | n + 1, x0, x1, x2, Z =>
    if mjCmp .ge x2 8 = true then
      some ((-2))
    else
      if mjIs x0 211 10 = true then
      mjBp (f142_rulesStriking x0 x1 Z) fun v104 =>
      if mjCmp .ne (((v104 : Int32) >>> ((x2 : Int32) &&& 31)) &&& 1) 1 = true then
        f143_firstRuleStriking_h2 n x0 x1 (x2 + 1) Z
      else
        some x2
      else none
theorem f143_firstRuleStriking_h2_ok : ∀ (n : Nat) (x0 : Nat) (x1 : Int32) (x2 : Int32) (Z : mjZt) (v9 : Int32), f143_firstRuleStriking_h2 n x0 x1 x2 Z = some v9 → pG 131 2 [some (.ref x0), some (.int x1), some (.int x2)] [] (mjTo Z) (fun r M1 => r = some (.int v9) ∧ M1 = mjTo Z)
  | 0, x0, x1, x2, Z, v9, h => by rw [f143_firstRuleStriking_h2] at h; cases h
  | n + 1, x0, x1, x2, Z, v9, h => by
      rw [f143_firstRuleStriking_h2] at h
      refine pG_many 2 (pc1 := 5) (L1 := [some (.ref x0), some (.int x1), some (.int x2)]) (st1 := [.int 8, .int x2]) (M1 := mjTo Z) (fun _ _ => rfl) ?_
      by_cases hc101 : mjCmp .ge x2 8 = true
      · rw [if_pos hc101] at h
        refine pG_cmt (t := 29) rfl rfl hc101 ?_
        refine pG_many 1 (pc1 := 31) (L1 := [some (.ref x0), some (.int x1), some (.int x2)]) (st1 := [.int ((-2))]) (M1 := mjTo Z) (fun _ _ => rfl) ?_
        simp only [Option.some.injEq] at h
        subst h
        exact pG_ret (r := some (.int ((-2)))) rfl ⟨rfl, rfl⟩
      · rw [if_neg hc101] at h
        refine pG_cmf (t := 29) rfl rfl hc101 ?_
        refine pG_many 2 (pc1 := 10) (L1 := [some (.ref x0), some (.int x1), some (.int x2)]) (st1 := [.int x1, .ref x0]) (M1 := mjTo Z) (fun _ _ => rfl) ?_
        have hk102 : mjIs x0 211 10 = true := by
          by_cases q9 : mjIs x0 211 10 = true
          · exact q9
          · rw [if_neg q9] at h; cases h
        rw [if_pos hk102] at h
        cases hq103 : f142_rulesStriking x0 x1 Z with
        | none => rw [hq103] at h; cases h
        | some v104 =>
          rw [hq103, mjBp_some] at h
          refine pG_callV (k2 := 130) (As := [.ref x0, .int x1]) (rest := []) rfl rfl rfl rfl rfl (mjRcv_is hk102 (by decide)) (by decide) (by decide) (f142_rulesStriking_ok hq103) ?_
          rintro r9 M9 ⟨rfl, rfl⟩
          show pG 131 13 [some (.ref x0), some (.int x1), some (.int x2)] [.int v104] (mjTo Z) _
          refine pG_many 5 (pc1 := 18) (L1 := [some (.ref x0), some (.int x1), some (.int x2)]) (st1 := [.int 1, .int (((v104 : Int32) >>> ((x2 : Int32) &&& 31)) &&& 1)]) (M1 := mjTo Z) (fun _ _ => rfl) ?_
          by_cases hc106 : mjCmp .ne (((v104 : Int32) >>> ((x2 : Int32) &&& 31)) &&& 1) 1 = true
          · rw [if_pos hc106] at h
            refine pG_cmt (t := 23) rfl rfl hc106 ?_
            refine pG_many 2 (pc1 := 2) (L1 := [some (.ref x0), some (.int x1), some (.int (x2 + 1))]) (st1 := []) (M1 := mjTo Z) (fun _ _ => rfl) ?_
            exact f143_firstRuleStriking_h2_ok n x0 x1 (x2 + 1) Z v9 h
          · rw [if_neg hc106] at h
            refine pG_cmf (t := 23) rfl rfl hc106 ?_
            refine pG_many 1 (pc1 := 22) (L1 := [some (.ref x0), some (.int x1), some (.int x2)]) (st1 := [.int x2]) (M1 := mjTo Z) (fun _ _ => rfl) ?_
            simp only [Option.some.injEq] at h
            subst h
            exact pG_ret (r := some (.int x2)) rfl ⟨rfl, rfl⟩
def f143_firstRuleStriking (a0 : Nat) (p0 : Int32) (Z : mjZt) : Option Int32 :=
  f143_firstRuleStriking_h2 mjF a0 p0 0 Z
theorem f143_firstRuleStriking_ok {a0 : Nat} {p0 : Int32} {Z : mjZt} {v9 : Int32} (h : f143_firstRuleStriking a0 p0 Z = some v9) : pG 131 0 (mjEnt [.ref a0, .int p0] (mjML 131)) [] (mjTo Z) (fun r M1 => r = some (.int v9) ∧ M1 = mjTo Z) := by
  unfold f143_firstRuleStriking at h
  show pG 131 0 [some (.ref a0), some (.int p0), none] [] (mjTo Z) _
  refine pG_many 2 (pc1 := 2) (L1 := [some (.ref a0), some (.int p0), some (.int 0)]) (st1 := []) (M1 := mjTo Z) (fun _ _ => rfl) ?_
  exact f143_firstRuleStriking_h2_ok mjF a0 p0 0 Z v9 h
def f144_firstStruckAct_j46 (R : Nat → Nat → Int32 → Int32 → Int32 → mjZt → Option Int32) (x0 : Nat) (x1 : Nat) (x2 : Int32) (x3 : Int32) (x4 : Int32) (x5 : Nat) (s0 : Int32) (Z : mjZt) : Option Int32 :=
  if mjCmp .eq s0 0 = true then
    R x0 x1 x2 x3 (x4 + 1) Z
  else
    if mjCmp .eq x3 ((-2)) = true then
      R x0 x1 x2 x4 (x4 + 1) Z
    else
      if mjIs x5 211 0 = true then
      if mjIs x1 211 2 = true then
      mjBp (f6_deed x1 x3 Z) fun v113 =>
      if mjIs v113 211 0 = true then
      if mjCmp .ge (Z.1 x5 3) (Z.1 v113 3) = true then
        R x0 x1 x2 x3 (x4 + 1) Z
      else
        R x0 x1 x2 x4 (x4 + 1) Z
      else none
      else none
      else none
theorem f144_firstStruckAct_j46_ok (R : Nat → Nat → Int32 → Int32 → Int32 → mjZt → Option Int32) (hR : ∀ (x0 : Nat) (x1 : Nat) (x2 : Int32) (x3 : Int32) (x4 : Int32) (d5 d6 : Option Value) (Z : mjZt) (v9 : Int32), R x0 x1 x2 x3 x4 Z = some v9 → pG 132 6 [some (.ref x0), some (.ref x1), some (.int x2), some (.int x3), some (.int x4), d5, d6] [] (mjTo Z) (fun r M1 => r = some (.int v9) ∧ M1 = mjTo Z)) (x0 : Nat) (x1 : Nat) (x2 : Int32) (x3 : Int32) (x4 : Int32) (x5 : Nat) (s0 : Int32) (d6 : Option Value) (Z : mjZt) (v9 : Int32) (h : f144_firstStruckAct_j46 R x0 x1 x2 x3 x4 x5 s0 Z = some v9) : pG 132 46 [some (.ref x0), some (.ref x1), some (.int x2), some (.int x3), some (.int x4), some (.ref x5), d6] [.int s0] (mjTo Z) (fun r M1 => r = some (.int v9) ∧ M1 = mjTo Z) := by
  unfold f144_firstStruckAct_j46 at h
  refine pG_many 2 (pc1 := 50) (L1 := [some (.ref x0), some (.ref x1), some (.int x2), some (.int x3), some (.int x4), some (.ref x5), some (.int s0)]) (st1 := [.int s0]) (M1 := mjTo Z) (fun _ _ => rfl) ?_
  by_cases hc108 : mjCmp .eq s0 0 = true
  · rw [if_pos hc108] at h
    refine pG_ift (t := 78) rfl rfl hc108 ?_
    refine pG_many 2 (pc1 := 6) (L1 := [some (.ref x0), some (.ref x1), some (.int x2), some (.int x3), some (.int (x4 + 1)), some (.ref x5), some (.int s0)]) (st1 := []) (M1 := mjTo Z) (fun _ _ => rfl) ?_
    exact hR x0 x1 x2 x3 (x4 + 1) (some (.ref x5)) (some (.int s0)) Z v9 h
  · rw [if_neg hc108] at h
    refine pG_iff (t := 78) rfl rfl hc108 ?_
    refine pG_many 2 (pc1 := 56) (L1 := [some (.ref x0), some (.ref x1), some (.int x2), some (.int x3), some (.int x4), some (.ref x5), some (.int s0)]) (st1 := [.int ((-2)), .int x3]) (M1 := mjTo Z) (fun _ _ => rfl) ?_
    by_cases hc109 : mjCmp .eq x3 ((-2)) = true
    · rw [if_pos hc109] at h
      refine pG_cmt (t := 75) rfl rfl hc109 ?_
      refine pG_many 4 (pc1 := 6) (L1 := [some (.ref x0), some (.ref x1), some (.int x2), some (.int x4), some (.int (x4 + 1)), some (.ref x5), some (.int s0)]) (st1 := []) (M1 := mjTo Z) (fun _ _ => rfl) ?_
      exact hR x0 x1 x2 x4 (x4 + 1) (some (.ref x5)) (some (.int s0)) Z v9 h
    · rw [if_neg hc109] at h
      refine pG_cmf (t := 75) rfl rfl hc109 ?_
      refine pG_many 1 (pc1 := 61) (L1 := [some (.ref x0), some (.ref x1), some (.int x2), some (.int x3), some (.int x4), some (.ref x5), some (.int s0)]) (st1 := [.ref x5]) (M1 := mjTo Z) (fun _ _ => rfl) ?_
      have hk110 : mjIs x5 211 0 = true := by
        by_cases q9 : mjIs x5 211 0 = true
        · exact q9
        · rw [if_neg q9] at h; cases h
      rw [if_pos hk110] at h
      refine pG_getI (ci := 0) (f := 3) rfl rfl (Or.inl rfl) hk110 (by decide) ?_
      refine pG_many 2 (pc1 := 66) (L1 := [some (.ref x0), some (.ref x1), some (.int x2), some (.int x3), some (.int x4), some (.ref x5), some (.int s0)]) (st1 := [.int x3, .ref x1, .int (Z.1 x5 3)]) (M1 := mjTo Z) (fun _ _ => rfl) ?_
      have hk111 : mjIs x1 211 2 = true := by
        by_cases q9 : mjIs x1 211 2 = true
        · exact q9
        · rw [if_neg q9] at h; cases h
      rw [if_pos hk111] at h
      cases hq112 : f6_deed x1 x3 Z with
      | none => rw [hq112] at h; cases h
      | some v113 =>
        rw [hq112, mjBp_some] at h
        refine pG_callV (k2 := 6) (As := [.ref x1, .int x3]) (rest := [.int (Z.1 x5 3)]) rfl rfl rfl rfl rfl (mjRcv_is hk111 (by decide)) (by decide) (by decide) (f6_deed_ok hq112) ?_
        rintro r9 M9 ⟨rfl, rfl⟩
        show pG 132 69 [some (.ref x0), some (.ref x1), some (.int x2), some (.int x3), some (.int x4), some (.ref x5), some (.int s0)] [.ref v113, .int (Z.1 x5 3)] (mjTo Z) _
        have hk115 : mjIs v113 211 0 = true := by
          by_cases q9 : mjIs v113 211 0 = true
          · exact q9
          · rw [if_neg q9] at h; cases h
        rw [if_pos hk115] at h
        refine pG_getI (ci := 0) (f := 3) rfl rfl (Or.inl rfl) hk115 (by decide) ?_
        by_cases hc116 : mjCmp .ge (Z.1 x5 3) (Z.1 v113 3) = true
        · rw [if_pos hc116] at h
          refine pG_cmt (t := 78) rfl rfl hc116 ?_
          refine pG_many 2 (pc1 := 6) (L1 := [some (.ref x0), some (.ref x1), some (.int x2), some (.int x3), some (.int (x4 + 1)), some (.ref x5), some (.int s0)]) (st1 := []) (M1 := mjTo Z) (fun _ _ => rfl) ?_
          exact hR x0 x1 x2 x3 (x4 + 1) (some (.ref x5)) (some (.int s0)) Z v9 h
        · rw [if_neg hc116] at h
          refine pG_cmf (t := 78) rfl rfl hc116 ?_
          refine pG_many 4 (pc1 := 6) (L1 := [some (.ref x0), some (.ref x1), some (.int x2), some (.int x4), some (.int (x4 + 1)), some (.ref x5), some (.int s0)]) (st1 := []) (M1 := mjTo Z) (fun _ _ => rfl) ?_
          exact hR x0 x1 x2 x4 (x4 + 1) (some (.ref x5)) (some (.int s0)) Z v9 h
def f144_firstStruckAct_j45 (R : Nat → Nat → Int32 → Int32 → Int32 → mjZt → Option Int32) (x0 : Nat) (x1 : Nat) (x2 : Int32) (x3 : Int32) (x4 : Int32) (x5 : Nat) (Z : mjZt) : Option Int32 :=
  f144_firstStruckAct_j46 R x0 x1 x2 x3 x4 x5 0 Z
theorem f144_firstStruckAct_j45_ok (R : Nat → Nat → Int32 → Int32 → Int32 → mjZt → Option Int32) (hR : ∀ (x0 : Nat) (x1 : Nat) (x2 : Int32) (x3 : Int32) (x4 : Int32) (d5 d6 : Option Value) (Z : mjZt) (v9 : Int32), R x0 x1 x2 x3 x4 Z = some v9 → pG 132 6 [some (.ref x0), some (.ref x1), some (.int x2), some (.int x3), some (.int x4), d5, d6] [] (mjTo Z) (fun r M1 => r = some (.int v9) ∧ M1 = mjTo Z)) (x0 : Nat) (x1 : Nat) (x2 : Int32) (x3 : Int32) (x4 : Int32) (x5 : Nat) (d6 : Option Value) (Z : mjZt) (v9 : Int32) (h : f144_firstStruckAct_j45 R x0 x1 x2 x3 x4 x5 Z = some v9) : pG 132 45 [some (.ref x0), some (.ref x1), some (.int x2), some (.int x3), some (.int x4), some (.ref x5), d6] [] (mjTo Z) (fun r M1 => r = some (.int v9) ∧ M1 = mjTo Z) := by
  unfold f144_firstStruckAct_j45 at h
  refine pG_many 1 (pc1 := 46) (L1 := [some (.ref x0), some (.ref x1), some (.int x2), some (.int x3), some (.int x4), some (.ref x5), d6]) (st1 := [.int 0]) (M1 := mjTo Z) (fun _ _ => rfl) ?_
  exact f144_firstStruckAct_j46_ok R hR x0 x1 x2 x3 x4 x5 0 d6 Z v9 h
def f144_firstStruckAct_h6 : Nat → Nat → Nat → Int32 → Int32 → Int32 → mjZt → Option Int32
  | 0, _, _, _, _, _, _ => none
  | n + 1, x0, x1, x2, x3, x4, Z =>
    if mjIs x1 211 2 = true then
    if mjCmp .ge x4 (Z.1 x1 7) = true then
      some x3
    else
      mjBp (f6_deed x1 x4 Z) fun v104 =>
      if mjIs v104 211 0 = true then
      if mjCmp .ne (Z.1 v104 1) x2 = true then
        f144_firstStruckAct_j45 (f144_firstStruckAct_h6 n) x0 x1 x2 x3 x4 v104 Z
      else
        if mjIs x0 211 10 = true then
        mjBp (f142_rulesStriking x0 x4 Z) fun v119 =>
        if mjCmp .eq v119 0 = true then
          f144_firstStruckAct_j45 (f144_firstStruckAct_h6 n) x0 x1 x2 x3 x4 v104 Z
        else
          f144_firstStruckAct_j46 (f144_firstStruckAct_h6 n) x0 x1 x2 x3 x4 v104 1 Z
        else none
      else none
    else none
theorem f144_firstStruckAct_h6_ok : ∀ (n : Nat) (x0 : Nat) (x1 : Nat) (x2 : Int32) (x3 : Int32) (x4 : Int32) (d5 d6 : Option Value) (Z : mjZt) (v9 : Int32), f144_firstStruckAct_h6 n x0 x1 x2 x3 x4 Z = some v9 → pG 132 6 [some (.ref x0), some (.ref x1), some (.int x2), some (.int x3), some (.int x4), d5, d6] [] (mjTo Z) (fun r M1 => r = some (.int v9) ∧ M1 = mjTo Z)
  | 0, x0, x1, x2, x3, x4, d5, d6, Z, v9, h => by rw [f144_firstStruckAct_h6] at h; cases h
  | n + 1, x0, x1, x2, x3, x4, d5, d6, Z, v9, h => by
      rw [f144_firstStruckAct_h6] at h
      refine pG_many 2 (pc1 := 9) (L1 := [some (.ref x0), some (.ref x1), some (.int x2), some (.int x3), some (.int x4), d5, d6]) (st1 := [.ref x1, .int x4]) (M1 := mjTo Z) (fun _ _ => rfl) ?_
      have hk101 : mjIs x1 211 2 = true := by
        by_cases q9 : mjIs x1 211 2 = true
        · exact q9
        · rw [if_neg q9] at h; cases h
      rw [if_pos hk101] at h
      refine pG_getI (ci := 2) (f := 7) rfl rfl (Or.inl rfl) hk101 (by decide) ?_
      by_cases hc102 : mjCmp .ge x4 (Z.1 x1 7) = true
      · rw [if_pos hc102] at h
        refine pG_cmt (t := 84) rfl rfl hc102 ?_
        refine pG_many 1 (pc1 := 85) (L1 := [some (.ref x0), some (.ref x1), some (.int x2), some (.int x3), some (.int x4), d5, d6]) (st1 := [.int x3]) (M1 := mjTo Z) (fun _ _ => rfl) ?_
        simp only [Option.some.injEq] at h
        subst h
        exact pG_ret (r := some (.int x3)) rfl ⟨rfl, rfl⟩
      · rw [if_neg hc102] at h
        refine pG_cmf (t := 84) rfl rfl hc102 ?_
        refine pG_many 2 (pc1 := 18) (L1 := [some (.ref x0), some (.ref x1), some (.int x2), some (.int x3), some (.int x4), d5, d6]) (st1 := [.int x4, .ref x1]) (M1 := mjTo Z) (fun _ _ => rfl) ?_
        cases hq103 : f6_deed x1 x4 Z with
        | none => rw [hq103] at h; cases h
        | some v104 =>
          rw [hq103, mjBp_some] at h
          refine pG_callV (k2 := 6) (As := [.ref x1, .int x4]) (rest := []) rfl rfl rfl rfl rfl (mjRcv_is hk101 (by decide)) (by decide) (by decide) (f6_deed_ok hq103) ?_
          rintro r9 M9 ⟨rfl, rfl⟩
          show pG 132 21 [some (.ref x0), some (.ref x1), some (.int x2), some (.int x3), some (.int x4), d5, d6] [.ref v104] (mjTo Z) _
          refine pG_many 2 (pc1 := 25) (L1 := [some (.ref x0), some (.ref x1), some (.int x2), some (.int x3), some (.int x4), some (.ref v104), d6]) (st1 := [.ref v104]) (M1 := mjTo Z) (fun _ _ => rfl) ?_
          have hk106 : mjIs v104 211 0 = true := by
            by_cases q9 : mjIs v104 211 0 = true
            · exact q9
            · rw [if_neg q9] at h; cases h
          rw [if_pos hk106] at h
          refine pG_getI (ci := 0) (f := 1) rfl rfl (Or.inl rfl) hk106 (by decide) ?_
          refine pG_many 1 (pc1 := 29) (L1 := [some (.ref x0), some (.ref x1), some (.int x2), some (.int x3), some (.int x4), some (.ref v104), d6]) (st1 := [.int x2, .int (Z.1 v104 1)]) (M1 := mjTo Z) (fun _ _ => rfl) ?_
          by_cases hc107 : mjCmp .ne (Z.1 v104 1) x2 = true
          · rw [if_pos hc107] at h
            refine pG_cmt (t := 45) rfl rfl hc107 ?_
            exact f144_firstStruckAct_j45_ok (f144_firstStruckAct_h6 n) (fun x0 x1 x2 x3 x4 d5 d6 Z v9 h => f144_firstStruckAct_h6_ok n x0 x1 x2 x3 x4 d5 d6 Z v9 h) x0 x1 x2 x3 x4 v104 d6 Z v9 h
          · rw [if_neg hc107] at h
            refine pG_cmf (t := 45) rfl rfl hc107 ?_
            refine pG_many 2 (pc1 := 35) (L1 := [some (.ref x0), some (.ref x1), some (.int x2), some (.int x3), some (.int x4), some (.ref v104), d6]) (st1 := [.int x4, .ref x0]) (M1 := mjTo Z) (fun _ _ => rfl) ?_
            have hk117 : mjIs x0 211 10 = true := by
              by_cases q9 : mjIs x0 211 10 = true
              · exact q9
              · rw [if_neg q9] at h; cases h
            rw [if_pos hk117] at h
            cases hq118 : f142_rulesStriking x0 x4 Z with
            | none => rw [hq118] at h; cases h
            | some v119 =>
              rw [hq118, mjBp_some] at h
              refine pG_callV (k2 := 130) (As := [.ref x0, .int x4]) (rest := []) rfl rfl rfl rfl rfl (mjRcv_is hk117 (by decide)) (by decide) (by decide) (f142_rulesStriking_ok hq118) ?_
              rintro r9 M9 ⟨rfl, rfl⟩
              show pG 132 38 [some (.ref x0), some (.ref x1), some (.int x2), some (.int x3), some (.int x4), some (.ref v104), d6] [.int v119] (mjTo Z) _
              by_cases hc121 : mjCmp .eq v119 0 = true
              · rw [if_pos hc121] at h
                refine pG_ift (t := 45) rfl rfl hc121 ?_
                exact f144_firstStruckAct_j45_ok (f144_firstStruckAct_h6 n) (fun x0 x1 x2 x3 x4 d5 d6 Z v9 h => f144_firstStruckAct_h6_ok n x0 x1 x2 x3 x4 d5 d6 Z v9 h) x0 x1 x2 x3 x4 v104 d6 Z v9 h
              · rw [if_neg hc121] at h
                refine pG_iff (t := 45) rfl rfl hc121 ?_
                refine pG_many 2 (pc1 := 46) (L1 := [some (.ref x0), some (.ref x1), some (.int x2), some (.int x3), some (.int x4), some (.ref v104), d6]) (st1 := [.int 1]) (M1 := mjTo Z) (fun _ _ => rfl) ?_
                exact f144_firstStruckAct_j46_ok (f144_firstStruckAct_h6 n) (fun x0 x1 x2 x3 x4 d5 d6 Z v9 h => f144_firstStruckAct_h6_ok n x0 x1 x2 x3 x4 d5 d6 Z v9 h) x0 x1 x2 x3 x4 v104 1 d6 Z v9 h
def f144_firstStruckAct (a0 : Nat) (p0 : Nat) (p1 : Int32) (Z : mjZt) : Option Int32 :=
  f144_firstStruckAct_h6 mjF a0 p0 p1 ((-2)) 0 Z
theorem f144_firstStruckAct_ok {a0 : Nat} {p0 : Nat} {p1 : Int32} {Z : mjZt} {v9 : Int32} (h : f144_firstStruckAct a0 p0 p1 Z = some v9) : pG 132 0 (mjEnt [.ref a0, .ref p0, .int p1] (mjML 132)) [] (mjTo Z) (fun r M1 => r = some (.int v9) ∧ M1 = mjTo Z) := by
  unfold f144_firstStruckAct at h
  show pG 132 0 [some (.ref a0), some (.ref p0), some (.int p1), none, none, none, none] [] (mjTo Z) _
  refine pG_many 4 (pc1 := 6) (L1 := [some (.ref a0), some (.ref p0), some (.int p1), some (.int ((-2))), some (.int 0), none, none]) (st1 := []) (M1 := mjTo Z) (fun _ _ => rfl) ?_
  exact f144_firstStruckAct_h6_ok mjF a0 p0 p1 ((-2)) 0 none none Z v9 h
def f145_struckActs_h5 : Nat → Nat → Nat → Int32 → Int32 → Int32 → mjZt → Option Int32
  | 0, _, _, _, _, _, _ => none
  | n + 1, x0, x1, x2, x3, x4, Z =>
    if mjIs x1 211 2 = true then
    if mjCmp .ge x4 (Z.1 x1 7) = true then
      some x3
    else
      mjBp (f6_deed x1 x4 Z) fun v104 =>
      if mjIs v104 211 0 = true then
      if mjCmp .ne (Z.1 v104 1) x2 = true then
        f145_struckActs_h5 n x0 x1 x2 x3 (x4 + 1) Z
      else
        if mjIs x0 211 10 = true then
        mjBp (f142_rulesStriking x0 x4 Z) fun v110 =>
        if mjCmp .eq v110 0 = true then
          f145_struckActs_h5 n x0 x1 x2 x3 (x4 + 1) Z
        else
          f145_struckActs_h5 n x0 x1 x2 (x3 + 1) (x4 + 1) Z
        else none
      else none
    else none
theorem f145_struckActs_h5_ok : ∀ (n : Nat) (x0 : Nat) (x1 : Nat) (x2 : Int32) (x3 : Int32) (x4 : Int32) (Z : mjZt) (v9 : Int32), f145_struckActs_h5 n x0 x1 x2 x3 x4 Z = some v9 → pG 133 5 [some (.ref x0), some (.ref x1), some (.int x2), some (.int x3), some (.int x4)] [] (mjTo Z) (fun r M1 => r = some (.int v9) ∧ M1 = mjTo Z)
  | 0, x0, x1, x2, x3, x4, Z, v9, h => by rw [f145_struckActs_h5] at h; cases h
  | n + 1, x0, x1, x2, x3, x4, Z, v9, h => by
      rw [f145_struckActs_h5] at h
      refine pG_many 2 (pc1 := 8) (L1 := [some (.ref x0), some (.ref x1), some (.int x2), some (.int x3), some (.int x4)]) (st1 := [.ref x1, .int x4]) (M1 := mjTo Z) (fun _ _ => rfl) ?_
      have hk101 : mjIs x1 211 2 = true := by
        by_cases q9 : mjIs x1 211 2 = true
        · exact q9
        · rw [if_neg q9] at h; cases h
      rw [if_pos hk101] at h
      refine pG_getI (ci := 2) (f := 7) rfl rfl (Or.inl rfl) hk101 (by decide) ?_
      by_cases hc102 : mjCmp .ge x4 (Z.1 x1 7) = true
      · rw [if_pos hc102] at h
        refine pG_cmt (t := 45) rfl rfl hc102 ?_
        refine pG_many 1 (pc1 := 46) (L1 := [some (.ref x0), some (.ref x1), some (.int x2), some (.int x3), some (.int x4)]) (st1 := [.int x3]) (M1 := mjTo Z) (fun _ _ => rfl) ?_
        simp only [Option.some.injEq] at h
        subst h
        exact pG_ret (r := some (.int x3)) rfl ⟨rfl, rfl⟩
      · rw [if_neg hc102] at h
        refine pG_cmf (t := 45) rfl rfl hc102 ?_
        refine pG_many 2 (pc1 := 17) (L1 := [some (.ref x0), some (.ref x1), some (.int x2), some (.int x3), some (.int x4)]) (st1 := [.int x4, .ref x1]) (M1 := mjTo Z) (fun _ _ => rfl) ?_
        cases hq103 : f6_deed x1 x4 Z with
        | none => rw [hq103] at h; cases h
        | some v104 =>
          rw [hq103, mjBp_some] at h
          refine pG_callV (k2 := 6) (As := [.ref x1, .int x4]) (rest := []) rfl rfl rfl rfl rfl (mjRcv_is hk101 (by decide)) (by decide) (by decide) (f6_deed_ok hq103) ?_
          rintro r9 M9 ⟨rfl, rfl⟩
          show pG 133 20 [some (.ref x0), some (.ref x1), some (.int x2), some (.int x3), some (.int x4)] [.ref v104] (mjTo Z) _
          have hk106 : mjIs v104 211 0 = true := by
            by_cases q9 : mjIs v104 211 0 = true
            · exact q9
            · rw [if_neg q9] at h; cases h
          rw [if_pos hk106] at h
          refine pG_getI (ci := 0) (f := 1) rfl rfl (Or.inl rfl) hk106 (by decide) ?_
          refine pG_many 1 (pc1 := 24) (L1 := [some (.ref x0), some (.ref x1), some (.int x2), some (.int x3), some (.int x4)]) (st1 := [.int x2, .int (Z.1 v104 1)]) (M1 := mjTo Z) (fun _ _ => rfl) ?_
          by_cases hc107 : mjCmp .ne (Z.1 v104 1) x2 = true
          · rw [if_pos hc107] at h
            refine pG_cmt (t := 39) rfl rfl hc107 ?_
            refine pG_many 2 (pc1 := 5) (L1 := [some (.ref x0), some (.ref x1), some (.int x2), some (.int x3), some (.int (x4 + 1))]) (st1 := []) (M1 := mjTo Z) (fun _ _ => rfl) ?_
            exact f145_struckActs_h5_ok n x0 x1 x2 x3 (x4 + 1) Z v9 h
          · rw [if_neg hc107] at h
            refine pG_cmf (t := 39) rfl rfl hc107 ?_
            refine pG_many 2 (pc1 := 30) (L1 := [some (.ref x0), some (.ref x1), some (.int x2), some (.int x3), some (.int x4)]) (st1 := [.int x4, .ref x0]) (M1 := mjTo Z) (fun _ _ => rfl) ?_
            have hk108 : mjIs x0 211 10 = true := by
              by_cases q9 : mjIs x0 211 10 = true
              · exact q9
              · rw [if_neg q9] at h; cases h
            rw [if_pos hk108] at h
            cases hq109 : f142_rulesStriking x0 x4 Z with
            | none => rw [hq109] at h; cases h
            | some v110 =>
              rw [hq109, mjBp_some] at h
              refine pG_callV (k2 := 130) (As := [.ref x0, .int x4]) (rest := []) rfl rfl rfl rfl rfl (mjRcv_is hk108 (by decide)) (by decide) (by decide) (f142_rulesStriking_ok hq109) ?_
              rintro r9 M9 ⟨rfl, rfl⟩
              show pG 133 33 [some (.ref x0), some (.ref x1), some (.int x2), some (.int x3), some (.int x4)] [.int v110] (mjTo Z) _
              by_cases hc112 : mjCmp .eq v110 0 = true
              · rw [if_pos hc112] at h
                refine pG_ift (t := 39) rfl rfl hc112 ?_
                refine pG_many 2 (pc1 := 5) (L1 := [some (.ref x0), some (.ref x1), some (.int x2), some (.int x3), some (.int (x4 + 1))]) (st1 := []) (M1 := mjTo Z) (fun _ _ => rfl) ?_
                exact f145_struckActs_h5_ok n x0 x1 x2 x3 (x4 + 1) Z v9 h
              · rw [if_neg hc112] at h
                refine pG_iff (t := 39) rfl rfl hc112 ?_
                refine pG_many 3 (pc1 := 5) (L1 := [some (.ref x0), some (.ref x1), some (.int x2), some (.int (x3 + 1)), some (.int (x4 + 1))]) (st1 := []) (M1 := mjTo Z) (fun _ _ => rfl) ?_
                exact f145_struckActs_h5_ok n x0 x1 x2 (x3 + 1) (x4 + 1) Z v9 h
def f145_struckActs (a0 : Nat) (p0 : Nat) (p1 : Int32) (Z : mjZt) : Option Int32 :=
  f145_struckActs_h5 mjF a0 p0 p1 0 0 Z
theorem f145_struckActs_ok {a0 : Nat} {p0 : Nat} {p1 : Int32} {Z : mjZt} {v9 : Int32} (h : f145_struckActs a0 p0 p1 Z = some v9) : pG 133 0 (mjEnt [.ref a0, .ref p0, .int p1] (mjML 133)) [] (mjTo Z) (fun r M1 => r = some (.int v9) ∧ M1 = mjTo Z) := by
  unfold f145_struckActs at h
  show pG 133 0 [some (.ref a0), some (.ref p0), some (.int p1), none, none] [] (mjTo Z) _
  refine pG_many 4 (pc1 := 5) (L1 := [some (.ref a0), some (.ref p0), some (.int p1), some (.int 0), some (.int 0)]) (st1 := []) (M1 := mjTo Z) (fun _ _ => rfl) ?_
  exact f145_struckActs_h5_ok mjF a0 p0 p1 0 0 Z v9 h
def f148_feedNumber_h3 : Nat → Int32 → Int32 → mjZt → Option (Unit × mjZt)
  | 0, _, _, _ => none
  | n + 1, x1, x2, Z =>
    if mjCmp .lt x2 0 = true then
      some ((), Z)
    else
      if mjCmp .lt (Z.1 0 1) 0 = true then
        f148_feedNumber_h3 n x1 (x2 + (-8)) Z
      else
        if mjCmp .ge (Z.1 0 1) 700 = true then
          f148_feedNumber_h3 n x1 (x2 + (-8)) Z
        else
          if mjIn (Z.1 0 1) 700 = true then
          mjLet (zSi Z 1 (mjIx (Z.1 0 1)) (((x1 : Int32) >>> ((x2 : Int32) &&& 31)) &&& 255)) fun Z105 =>
          mjLet (zSi Z105 0 1 ((Z105.1 0 1) + 1)) fun Z106 =>
          f148_feedNumber_h3 n x1 (x2 + (-8)) Z106
          else none
theorem f148_feedNumber_h3_ok : ∀ (n : Nat) (x1 : Int32) (x2 : Int32) (Z : mjZt) (v9 : Unit) (Z9 : mjZt), f148_feedNumber_h3 n x1 x2 Z = some (v9, Z9) → pG 135 3 [some (.ref 0), some (.int x1), some (.int x2)] [] (mjTo Z) (fun r M1 => r = none ∧ M1 = mjTo Z9)
  | 0, x1, x2, Z, v9, Z9, h => by rw [f148_feedNumber_h3] at h; cases h
  | n + 1, x1, x2, Z, v9, Z9, h => by
      rw [f148_feedNumber_h3] at h
      refine pG_many 1 (pc1 := 4) (L1 := [some (.ref 0), some (.int x1), some (.int x2)]) (st1 := [.int x2]) (M1 := mjTo Z) (fun _ _ => rfl) ?_
      by_cases hc101 : mjCmp .lt x2 0 = true
      · rw [if_pos hc101] at h
        refine pG_ift (t := 58) rfl rfl hc101 ?_
        simp only [Option.some.injEq, Prod.mk.injEq] at h
        obtain ⟨-, rfl⟩ := h
        exact pG_ret (r := none) rfl ⟨rfl, rfl⟩
      · rw [if_neg hc101] at h
        refine pG_iff (t := 58) rfl rfl hc101 ?_
        refine pG_many 1 (pc1 := 8) (L1 := [some (.ref 0), some (.int x1), some (.int x2)]) (st1 := [.ref 0]) (M1 := mjTo Z) (fun _ _ => rfl) ?_
        refine pG_getI (ci := 11) (f := 1) rfl rfl (Or.inl rfl) (by rfl) (by decide) ?_
        by_cases hc102 : mjCmp .lt (Z.1 0 1) 0 = true
        · rw [if_pos hc102] at h
          refine pG_ift (t := 52) rfl rfl hc102 ?_
          refine pG_many 2 (pc1 := 3) (L1 := [some (.ref 0), some (.int x1), some (.int (x2 + (-8)))]) (st1 := []) (M1 := mjTo Z) (fun _ _ => rfl) ?_
          exact f148_feedNumber_h3_ok n x1 (x2 + (-8)) Z v9 Z9 h
        · rw [if_neg hc102] at h
          refine pG_iff (t := 52) rfl rfl hc102 ?_
          refine pG_many 1 (pc1 := 15) (L1 := [some (.ref 0), some (.int x1), some (.int x2)]) (st1 := [.ref 0]) (M1 := mjTo Z) (fun _ _ => rfl) ?_
          refine pG_getI (ci := 11) (f := 1) rfl rfl (Or.inl rfl) (by rfl) (by decide) ?_
          refine pG_many 1 (pc1 := 19) (L1 := [some (.ref 0), some (.int x1), some (.int x2)]) (st1 := [.ref 0, .int (Z.1 0 1)]) (M1 := mjTo Z) (fun _ _ => rfl) ?_
          refine pG_getR (ci := 11) (f := 0) (b := 1) rfl rfl rfl (by rfl) (by decide) rfl ?_
          refine pG_len rfl (by decide) (by decide) (by decide) ?_
          by_cases hc103 : mjCmp .ge (Z.1 0 1) 700 = true
          · rw [if_pos hc103] at h
            refine pG_cmt (t := 52) rfl rfl hc103 ?_
            refine pG_many 2 (pc1 := 3) (L1 := [some (.ref 0), some (.int x1), some (.int (x2 + (-8)))]) (st1 := []) (M1 := mjTo Z) (fun _ _ => rfl) ?_
            exact f148_feedNumber_h3_ok n x1 (x2 + (-8)) Z v9 Z9 h
          · rw [if_neg hc103] at h
            refine pG_cmf (t := 52) rfl rfl hc103 ?_
            refine pG_many 1 (pc1 := 27) (L1 := [some (.ref 0), some (.int x1), some (.int x2)]) (st1 := [.ref 0]) (M1 := mjTo Z) (fun _ _ => rfl) ?_
            refine pG_getR (ci := 11) (f := 0) (b := 1) rfl rfl rfl (by rfl) (by decide) rfl ?_
            refine pG_many 1 (pc1 := 31) (L1 := [some (.ref 0), some (.int x1), some (.int x2)]) (st1 := [.ref 0, .ref 1]) (M1 := mjTo Z) (fun _ _ => rfl) ?_
            refine pG_getI (ci := 11) (f := 1) rfl rfl (Or.inl rfl) (by rfl) (by decide) ?_
            refine pG_many 5 (pc1 := 41) (L1 := [some (.ref 0), some (.int x1), some (.int x2)]) (st1 := [.int (((x1 : Int32) >>> ((x2 : Int32) &&& 31)) &&& 255), .int (Z.1 0 1), .ref 1]) (M1 := mjTo Z) (fun _ _ => rfl) ?_
            have hk104 : mjIn (Z.1 0 1) 700 = true := by
              by_cases q9 : mjIn (Z.1 0 1) 700 = true
              · exact q9
              · rw [if_neg q9] at h; cases h
            rw [if_pos hk104] at h
            refine pG_ias rfl (by rfl) hk104 (?_ : pG 135 42 [some (.ref 0), some (.int x1), some (.int x2)] [] (mjTo (zSi Z 1 (mjIx (Z.1 0 1)) (((x1 : Int32) >>> ((x2 : Int32) &&& 31)) &&& 255))) _)
            rw [mjLet] at h
            generalize zSi Z 1 (mjIx (Z.1 0 1)) (((x1 : Int32) >>> ((x2 : Int32) &&& 31)) &&& 255) = Z105 at h ⊢
            refine pG_many 2 (pc1 := 44) (L1 := [some (.ref 0), some (.int x1), some (.int x2)]) (st1 := [.ref 0, .ref 0]) (M1 := mjTo Z105) (fun _ _ => rfl) ?_
            refine pG_getI (ci := 11) (f := 1) rfl rfl (Or.inl rfl) (by rfl) (by decide) ?_
            refine pG_many 2 (pc1 := 49) (L1 := [some (.ref 0), some (.int x1), some (.int x2)]) (st1 := [.int ((Z105.1 0 1) + 1), .ref 0]) (M1 := mjTo Z105) (fun _ _ => rfl) ?_
            refine pG_putI (ci := 11) (f := 1) rfl rfl rfl rfl (by rfl) (by decide) ?_
            rw [mjLet] at h
            generalize zSi Z105 0 1 ((Z105.1 0 1) + 1) = Z106 at h ⊢
            refine pG_many 2 (pc1 := 3) (L1 := [some (.ref 0), some (.int x1), some (.int (x2 + (-8)))]) (st1 := []) (M1 := mjTo Z106) (fun _ _ => rfl) ?_
            exact f148_feedNumber_h3_ok n x1 (x2 + (-8)) Z106 v9 Z9 h
def f148_feedNumber (p0 : Int32) (Z : mjZt) : Option (Unit × mjZt) :=
  f148_feedNumber_h3 mjF p0 24 Z
theorem f148_feedNumber_ok {p0 : Int32} {Z : mjZt} {v9 : Unit} {Z9 : mjZt} (h : f148_feedNumber p0 Z = some (v9, Z9)) : pG 135 0 (mjEnt [.ref 0, .int p0] (mjML 135)) [] (mjTo Z) (fun r M1 => r = none ∧ M1 = mjTo Z9) := by
  unfold f148_feedNumber at h
  show pG 135 0 [some (.ref 0), some (.int p0), none] [] (mjTo Z) _
  refine pG_many 2 (pc1 := 3) (L1 := [some (.ref 0), some (.int p0), some (.int 24)]) (st1 := []) (M1 := mjTo Z) (fun _ _ => rfl) ?_
  exact f148_feedNumber_h3_ok mjF p0 24 Z v9 Z9 h
def f149_feed (p0 : Int32) (p1 : Int32) (p2 : Int32) (p3 : Int32) (p4 : Int32) (Z : mjZt) : Option (Int32 × mjZt) :=
  if mjCmp .le ((Z.1 0 1) + 20) 700 = true then
    mjBd (f148_feedNumber p0 Z) fun _ Z104 =>
    mjBd (f148_feedNumber p1 Z104) fun _ Z107 =>
    mjBd (f148_feedNumber p2 Z107) fun _ Z110 =>
    mjBd (f148_feedNumber p3 Z110) fun _ Z113 =>
    mjBd (f148_feedNumber p4 Z113) fun _ Z116 =>
    some (Z116.1 0 1, Z116)
  else
    some ((-1), Z)
theorem f149_feed_ok {p0 : Int32} {p1 : Int32} {p2 : Int32} {p3 : Int32} {p4 : Int32} {Z : mjZt} {v9 : Int32} {Z9 : mjZt} (h : f149_feed p0 p1 p2 p3 p4 Z = some (v9, Z9)) : pG 136 0 (mjEnt [.ref 0, .int p0, .int p1, .int p2, .int p3, .int p4] (mjML 136)) [] (mjTo Z) (fun r M1 => r = some (.int v9) ∧ M1 = mjTo Z9) := by
  unfold f149_feed at h
  show pG 136 0 [some (.ref 0), some (.int p0), some (.int p1), some (.int p2), some (.int p3), some (.int p4)] [] (mjTo Z) _
  refine pG_many 1 (pc1 := 1) (L1 := [some (.ref 0), some (.int p0), some (.int p1), some (.int p2), some (.int p3), some (.int p4)]) (st1 := [.ref 0]) (M1 := mjTo Z) (fun _ _ => rfl) ?_
  refine pG_getI (ci := 11) (f := 1) rfl rfl (Or.inl rfl) (by rfl) (by decide) ?_
  refine pG_many 3 (pc1 := 10) (L1 := [some (.ref 0), some (.int p0), some (.int p1), some (.int p2), some (.int p3), some (.int p4)]) (st1 := [.int 700, .int ((Z.1 0 1) + 20)]) (M1 := mjTo Z) (fun _ _ => rfl) ?_
  by_cases hc101 : mjCmp .le ((Z.1 0 1) + 20) 700 = true
  · rw [if_pos hc101] at h
    refine pG_cmt (t := 15) rfl rfl hc101 ?_
    refine pG_many 2 (pc1 := 17) (L1 := [some (.ref 0), some (.int p0), some (.int p1), some (.int p2), some (.int p3), some (.int p4)]) (st1 := [.int p0, .ref 0]) (M1 := mjTo Z) (fun _ _ => rfl) ?_
    cases hq102 : f148_feedNumber p0 Z with
    | none => rw [hq102] at h; cases h
    | some w =>
      obtain ⟨v103, Z104⟩ := w
      rw [hq102, mjBd_some] at h
      refine pG_callV (k2 := 135) (As := [.ref 0, .int p0]) (rest := []) rfl rfl rfl rfl rfl (by rfl) (by decide) (by decide) (f148_feedNumber_ok hq102) ?_
      rintro r9 M9 ⟨rfl, rfl⟩
      show pG 136 20 [some (.ref 0), some (.int p0), some (.int p1), some (.int p2), some (.int p3), some (.int p4)] [] (mjTo Z104) _
      refine pG_many 2 (pc1 := 22) (L1 := [some (.ref 0), some (.int p0), some (.int p1), some (.int p2), some (.int p3), some (.int p4)]) (st1 := [.int p1, .ref 0]) (M1 := mjTo Z104) (fun _ _ => rfl) ?_
      cases hq105 : f148_feedNumber p1 Z104 with
      | none => rw [hq105] at h; cases h
      | some w =>
        obtain ⟨v106, Z107⟩ := w
        rw [hq105, mjBd_some] at h
        refine pG_callV (k2 := 135) (As := [.ref 0, .int p1]) (rest := []) rfl rfl rfl rfl rfl (by rfl) (by decide) (by decide) (f148_feedNumber_ok hq105) ?_
        rintro r9 M9 ⟨rfl, rfl⟩
        show pG 136 25 [some (.ref 0), some (.int p0), some (.int p1), some (.int p2), some (.int p3), some (.int p4)] [] (mjTo Z107) _
        refine pG_many 2 (pc1 := 27) (L1 := [some (.ref 0), some (.int p0), some (.int p1), some (.int p2), some (.int p3), some (.int p4)]) (st1 := [.int p2, .ref 0]) (M1 := mjTo Z107) (fun _ _ => rfl) ?_
        cases hq108 : f148_feedNumber p2 Z107 with
        | none => rw [hq108] at h; cases h
        | some w =>
          obtain ⟨v109, Z110⟩ := w
          rw [hq108, mjBd_some] at h
          refine pG_callV (k2 := 135) (As := [.ref 0, .int p2]) (rest := []) rfl rfl rfl rfl rfl (by rfl) (by decide) (by decide) (f148_feedNumber_ok hq108) ?_
          rintro r9 M9 ⟨rfl, rfl⟩
          show pG 136 30 [some (.ref 0), some (.int p0), some (.int p1), some (.int p2), some (.int p3), some (.int p4)] [] (mjTo Z110) _
          refine pG_many 2 (pc1 := 33) (L1 := [some (.ref 0), some (.int p0), some (.int p1), some (.int p2), some (.int p3), some (.int p4)]) (st1 := [.int p3, .ref 0]) (M1 := mjTo Z110) (fun _ _ => rfl) ?_
          cases hq111 : f148_feedNumber p3 Z110 with
          | none => rw [hq111] at h; cases h
          | some w =>
            obtain ⟨v112, Z113⟩ := w
            rw [hq111, mjBd_some] at h
            refine pG_callV (k2 := 135) (As := [.ref 0, .int p3]) (rest := []) rfl rfl rfl rfl rfl (by rfl) (by decide) (by decide) (f148_feedNumber_ok hq111) ?_
            rintro r9 M9 ⟨rfl, rfl⟩
            show pG 136 36 [some (.ref 0), some (.int p0), some (.int p1), some (.int p2), some (.int p3), some (.int p4)] [] (mjTo Z113) _
            refine pG_many 2 (pc1 := 39) (L1 := [some (.ref 0), some (.int p0), some (.int p1), some (.int p2), some (.int p3), some (.int p4)]) (st1 := [.int p4, .ref 0]) (M1 := mjTo Z113) (fun _ _ => rfl) ?_
            cases hq114 : f148_feedNumber p4 Z113 with
            | none => rw [hq114] at h; cases h
            | some w =>
              obtain ⟨v115, Z116⟩ := w
              rw [hq114, mjBd_some] at h
              refine pG_callV (k2 := 135) (As := [.ref 0, .int p4]) (rest := []) rfl rfl rfl rfl rfl (by rfl) (by decide) (by decide) (f148_feedNumber_ok hq114) ?_
              rintro r9 M9 ⟨rfl, rfl⟩
              show pG 136 42 [some (.ref 0), some (.int p0), some (.int p1), some (.int p2), some (.int p3), some (.int p4)] [] (mjTo Z116) _
              refine pG_many 1 (pc1 := 43) (L1 := [some (.ref 0), some (.int p0), some (.int p1), some (.int p2), some (.int p3), some (.int p4)]) (st1 := [.ref 0]) (M1 := mjTo Z116) (fun _ _ => rfl) ?_
              refine pG_getI (ci := 11) (f := 1) rfl rfl (Or.inl rfl) (by rfl) (by decide) ?_
              simp only [Option.some.injEq, Prod.mk.injEq] at h
              obtain ⟨rfl, rfl⟩ := h
              exact pG_ret (r := some (.int (Z116.1 0 1))) rfl ⟨rfl, rfl⟩
  · rw [if_neg hc101] at h
    refine pG_cmf (t := 15) rfl rfl hc101 ?_
    refine pG_many 1 (pc1 := 14) (L1 := [some (.ref 0), some (.int p0), some (.int p1), some (.int p2), some (.int p3), some (.int p4)]) (st1 := [.int ((-1))]) (M1 := mjTo Z) (fun _ _ => rfl) ?_
    simp only [Option.some.injEq, Prod.mk.injEq] at h
    obtain ⟨rfl, rfl⟩ := h
    exact pG_ret (r := some (.int ((-1)))) rfl ⟨rfl, rfl⟩
def f150_end (p0 : Int32) (Z : mjZt) : Option (Int32 × mjZt) :=
  if mjCmp .lt p0 0 = true then
    some ((-1), Z)
  else
    if mjCmp .le p0 (Z.1 0 1) = true then
      mjLet (zSi Z 0 1 p0) fun Z103 =>
      some (p0, Z103)
    else
      some ((-1), Z)
theorem f150_end_ok {p0 : Int32} {Z : mjZt} {v9 : Int32} {Z9 : mjZt} (h : f150_end p0 Z = some (v9, Z9)) : pG 137 0 (mjEnt [.ref 0, .int p0] (mjML 137)) [] (mjTo Z) (fun r M1 => r = some (.int v9) ∧ M1 = mjTo Z9) := by
  unfold f150_end at h
  show pG 137 0 [some (.ref 0), some (.int p0)] [] (mjTo Z) _
  refine pG_many 1 (pc1 := 1) (L1 := [some (.ref 0), some (.int p0)]) (st1 := [.int p0]) (M1 := mjTo Z) (fun _ _ => rfl) ?_
  by_cases hc101 : mjCmp .lt p0 0 = true
  · rw [if_pos hc101] at h
    refine pG_ift (t := 12) rfl rfl hc101 ?_
    refine pG_many 1 (pc1 := 13) (L1 := [some (.ref 0), some (.int p0)]) (st1 := [.int ((-1))]) (M1 := mjTo Z) (fun _ _ => rfl) ?_
    simp only [Option.some.injEq, Prod.mk.injEq] at h
    obtain ⟨rfl, rfl⟩ := h
    exact pG_ret (r := some (.int ((-1)))) rfl ⟨rfl, rfl⟩
  · rw [if_neg hc101] at h
    refine pG_iff (t := 12) rfl rfl hc101 ?_
    refine pG_many 2 (pc1 := 6) (L1 := [some (.ref 0), some (.int p0)]) (st1 := [.ref 0, .int p0]) (M1 := mjTo Z) (fun _ _ => rfl) ?_
    refine pG_getI (ci := 11) (f := 1) rfl rfl (Or.inl rfl) (by rfl) (by decide) ?_
    by_cases hc102 : mjCmp .le p0 (Z.1 0 1) = true
    · rw [if_pos hc102] at h
      refine pG_cmt (t := 14) rfl rfl hc102 ?_
      refine pG_many 2 (pc1 := 16) (L1 := [some (.ref 0), some (.int p0)]) (st1 := [.int p0, .ref 0]) (M1 := mjTo Z) (fun _ _ => rfl) ?_
      refine pG_putI (ci := 11) (f := 1) rfl rfl rfl rfl (by rfl) (by decide) ?_
      rw [mjLet] at h
      generalize zSi Z 0 1 p0 = Z103 at h ⊢
      refine pG_many 1 (pc1 := 20) (L1 := [some (.ref 0), some (.int p0)]) (st1 := [.int p0]) (M1 := mjTo Z103) (fun _ _ => rfl) ?_
      simp only [Option.some.injEq, Prod.mk.injEq] at h
      obtain ⟨rfl, rfl⟩ := h
      exact pG_ret (r := some (.int p0)) rfl ⟨rfl, rfl⟩
    · rw [if_neg hc102] at h
      refine pG_cmf (t := 14) rfl rfl hc102 ?_
      refine pG_many 1 (pc1 := 13) (L1 := [some (.ref 0), some (.int p0)]) (st1 := [.int ((-1))]) (M1 := mjTo Z) (fun _ _ => rfl) ?_
      simp only [Option.some.injEq, Prod.mk.injEq] at h
      obtain ⟨rfl, rfl⟩ := h
      exact pG_ret (r := some (.int ((-1)))) rfl ⟨rfl, rfl⟩
def f151_settleAll  (Z : mjZt) : Option (Unit × mjZt) :=
  if mjIs Z.2.2.1 211 2 = true then
  mjBd (f35_settle Z.2.2.1 Z) fun _ Z104 =>
  if mjIs Z104.2.2.1 211 2 = true then
  mjBd (f136_decide 199 Z104.2.2.1 (Z104.2.1 Z104.2.2.1 11) Z104) fun _ Z108 =>
  some ((), Z108)
  else none
  else none
theorem f151_settleAll_ok  {Z : mjZt} {v9 : Unit} {Z9 : mjZt} (h : f151_settleAll  Z = some (v9, Z9)) : pG 138 0 (mjEnt [.ref 0] (mjML 138)) [] (mjTo Z) (fun r M1 => r = none ∧ M1 = mjTo Z9) := by
  unfold f151_settleAll at h
  show pG 138 0 [some (.ref 0)] [] (mjTo Z) _
  refine pG_many 1 (pc1 := 1) (L1 := [some (.ref 0)]) (st1 := [.ref 0]) (M1 := mjTo Z) (fun _ _ => rfl) ?_
  refine pG_getR (ci := 11) (f := 2) (b := Z.2.2.1) rfl rfl rfl (by rfl) (by decide) rfl ?_
  have hk101 : mjIs Z.2.2.1 211 2 = true := by
    by_cases q9 : mjIs Z.2.2.1 211 2 = true
    · exact q9
    · rw [if_neg q9] at h; cases h
  rw [if_pos hk101] at h
  cases hq102 : f35_settle Z.2.2.1 Z with
  | none => rw [hq102] at h; cases h
  | some w =>
    obtain ⟨v103, Z104⟩ := w
    rw [hq102, mjBd_some] at h
    refine pG_callV (k2 := 35) (As := [.ref Z.2.2.1]) (rest := []) rfl rfl rfl rfl rfl (mjRcv_is hk101 (by decide)) (by decide) (by decide) (f35_settle_ok hq102) ?_
    rintro r9 M9 ⟨rfl, rfl⟩
    show pG 138 7 [some (.ref 0)] [] (mjTo Z104) _
    refine pG_many 1 (pc1 := 8) (L1 := [some (.ref 0)]) (st1 := [.ref 0]) (M1 := mjTo Z104) (fun _ _ => rfl) ?_
    refine pG_getR (ci := 11) (f := 7) (b := 199) rfl rfl rfl (by rfl) (by decide) rfl ?_
    refine pG_many 1 (pc1 := 12) (L1 := [some (.ref 0)]) (st1 := [.ref 0, .ref 199]) (M1 := mjTo Z104) (fun _ _ => rfl) ?_
    refine pG_getR (ci := 11) (f := 2) (b := Z104.2.2.1) rfl rfl rfl (by rfl) (by decide) rfl ?_
    refine pG_many 1 (pc1 := 16) (L1 := [some (.ref 0)]) (st1 := [.ref 0, .ref Z104.2.2.1, .ref 199]) (M1 := mjTo Z104) (fun _ _ => rfl) ?_
    refine pG_getR (ci := 11) (f := 6) (b := 190) rfl rfl rfl (by rfl) (by decide) rfl ?_
    refine pG_many 1 (pc1 := 20) (L1 := [some (.ref 0)]) (st1 := [.ref 0, .ref 190, .ref Z104.2.2.1, .ref 199]) (M1 := mjTo Z104) (fun _ _ => rfl) ?_
    refine pG_getR (ci := 11) (f := 2) (b := Z104.2.2.1) rfl rfl rfl (by rfl) (by decide) rfl ?_
    have hk105 : mjIs Z104.2.2.1 211 2 = true := by
      by_cases q9 : mjIs Z104.2.2.1 211 2 = true
      · exact q9
      · rw [if_neg q9] at h; cases h
    rw [if_pos hk105] at h
    refine pG_getL (ci := 2) (f := 11) rfl rfl rfl hk105 (by decide) ?_
    cases hq106 : f136_decide 199 Z104.2.2.1 (Z104.2.1 Z104.2.2.1 11) Z104 with
    | none => rw [hq106] at h; cases h
    | some w =>
      obtain ⟨v107, Z108⟩ := w
      rw [hq106, mjBd_some] at h
      refine pG_callV (k2 := 125) (As := [.ref 199, .ref Z104.2.2.1, .ref 190, .long (Z104.2.1 Z104.2.2.1 11)]) (rest := []) rfl rfl rfl rfl rfl (by rfl) (by decide) (by decide) (f136_decide_ok hq106) ?_
      rintro r9 M9 ⟨rfl, rfl⟩
      show pG 138 29 [some (.ref 0)] [] (mjTo Z108) _
      simp only [Option.some.injEq, Prod.mk.injEq] at h
      obtain ⟨-, rfl⟩ := h
      exact pG_ret (r := none) rfl ⟨rfl, rfl⟩
def f154_about (p0 : Int32) (Z : mjZt) : Option Int32 :=
  if (p0).toInt < 0 ∨ 12 < (p0).toInt then
    some ((-1))
  else if ((p0).toInt - 0).toNat = 0 then
    if mjIs Z.2.2.1 211 2 = true then
    some (Z.1 Z.2.2.1 0)
    else none
  else if ((p0).toInt - 0).toNat = 1 then
    if mjIs Z.2.2.1 211 2 = true then
    some (Z.1 Z.2.2.1 1)
    else none
  else if ((p0).toInt - 0).toNat = 2 then
    if mjIs Z.2.2.1 211 2 = true then
    some (Z.1 Z.2.2.1 2)
    else none
  else if ((p0).toInt - 0).toNat = 3 then
    if mjIs Z.2.2.1 211 2 = true then
    some (Z.1 Z.2.2.1 3)
    else none
  else if ((p0).toInt - 0).toNat = 4 then
    if mjIs Z.2.2.1 211 2 = true then
    some (Z.1 Z.2.2.1 4)
    else none
  else if ((p0).toInt - 0).toNat = 5 then
    if mjIs Z.2.2.1 211 2 = true then
    some (Z.1 Z.2.2.1 5)
    else none
  else if ((p0).toInt - 0).toNat = 6 then
    if mjIs Z.2.2.1 211 2 = true then
    some (Z.1 Z.2.2.1 7)
    else none
  else if ((p0).toInt - 0).toNat = 7 then
    if mjIs Z.2.2.1 211 2 = true then
    some (Z.1 Z.2.2.1 6)
    else none
  else if ((p0).toInt - 0).toNat = 8 then
    if mjIs Z.2.2.1 211 2 = true then
    some (Z.1 Z.2.2.1 8)
    else none
  else if ((p0).toInt - 0).toNat = 9 then
    if mjIs Z.2.2.1 211 2 = true then
    some (Z.1 Z.2.2.1 9)
    else none
  else if ((p0).toInt - 0).toNat = 10 then
    if mjIs Z.2.2.1 211 2 = true then
    some (Z.1 Z.2.2.1 10)
    else none
  else if ((p0).toInt - 0).toNat = 11 then
    some (Z.1 209 2)
  else if ((p0).toInt - 0).toNat = 12 then
    some (Z.1 0 1)
  else none
theorem f154_about_ok {p0 : Int32} {Z : mjZt} {v9 : Int32} (h : f154_about p0 Z = some v9) : pG 140 0 (mjEnt [.ref 0, .int p0] (mjML 140)) [] (mjTo Z) (fun r M1 => r = some (.int v9) ∧ M1 = mjTo Z) := by
  unfold f154_about at h
  show pG 140 0 [some (.ref 0), some (.int p0)] [] (mjTo Z) _
  refine pG_many 1 (pc1 := 1) (L1 := [some (.ref 0), some (.int p0)]) (st1 := [.int p0]) (M1 := mjTo Z) (fun _ _ => rfl) ?_
  by_cases hs101 : (p0).toInt < 0 ∨ 12 < (p0).toInt
  · rw [if_pos hs101] at h
    refine pG_tso (t := 169) rfl hs101 rfl ?_
    refine pG_many 1 (pc1 := 170) (L1 := [some (.ref 0), some (.int p0)]) (st1 := [.int ((-1))]) (M1 := mjTo Z) (fun _ _ => rfl) ?_
    simp only [Option.some.injEq] at h
    subst h
    exact pG_ret (r := some (.int ((-1)))) rfl ⟨rfl, rfl⟩
  rw [if_neg hs101] at h
  by_cases hs102 : ((p0).toInt - 0).toNat = 0
  · rw [if_pos hs102] at h
    refine pG_tsi (t := 68) (j := 0) (o := 67) rfl hs101 hs102 rfl rfl ?_
    refine pG_many 1 (pc1 := 69) (L1 := [some (.ref 0), some (.int p0)]) (st1 := [.ref 0]) (M1 := mjTo Z) (fun _ _ => rfl) ?_
    refine pG_getR (ci := 11) (f := 2) (b := Z.2.2.1) rfl rfl rfl (by rfl) (by decide) rfl ?_
    have hk103 : mjIs Z.2.2.1 211 2 = true := by
      by_cases q9 : mjIs Z.2.2.1 211 2 = true
      · exact q9
      · rw [if_neg q9] at h; cases h
    rw [if_pos hk103] at h
    refine pG_getI (ci := 2) (f := 0) rfl rfl (Or.inl rfl) hk103 (by decide) ?_
    simp only [Option.some.injEq] at h
    subst h
    exact pG_ret (r := some (.int (Z.1 Z.2.2.1 0))) rfl ⟨rfl, rfl⟩
  rw [if_neg hs102] at h
  by_cases hs104 : ((p0).toInt - 0).toNat = 1
  · rw [if_pos hs104] at h
    refine pG_tsi (t := 76) (j := 1) (o := 75) rfl hs101 hs104 rfl rfl ?_
    refine pG_many 1 (pc1 := 77) (L1 := [some (.ref 0), some (.int p0)]) (st1 := [.ref 0]) (M1 := mjTo Z) (fun _ _ => rfl) ?_
    refine pG_getR (ci := 11) (f := 2) (b := Z.2.2.1) rfl rfl rfl (by rfl) (by decide) rfl ?_
    have hk105 : mjIs Z.2.2.1 211 2 = true := by
      by_cases q9 : mjIs Z.2.2.1 211 2 = true
      · exact q9
      · rw [if_neg q9] at h; cases h
    rw [if_pos hk105] at h
    refine pG_getI (ci := 2) (f := 1) rfl rfl (Or.inl rfl) hk105 (by decide) ?_
    simp only [Option.some.injEq] at h
    subst h
    exact pG_ret (r := some (.int (Z.1 Z.2.2.1 1))) rfl ⟨rfl, rfl⟩
  rw [if_neg hs104] at h
  by_cases hs106 : ((p0).toInt - 0).toNat = 2
  · rw [if_pos hs106] at h
    refine pG_tsi (t := 84) (j := 2) (o := 83) rfl hs101 hs106 rfl rfl ?_
    refine pG_many 1 (pc1 := 85) (L1 := [some (.ref 0), some (.int p0)]) (st1 := [.ref 0]) (M1 := mjTo Z) (fun _ _ => rfl) ?_
    refine pG_getR (ci := 11) (f := 2) (b := Z.2.2.1) rfl rfl rfl (by rfl) (by decide) rfl ?_
    have hk107 : mjIs Z.2.2.1 211 2 = true := by
      by_cases q9 : mjIs Z.2.2.1 211 2 = true
      · exact q9
      · rw [if_neg q9] at h; cases h
    rw [if_pos hk107] at h
    refine pG_getI (ci := 2) (f := 2) rfl rfl (Or.inl rfl) hk107 (by decide) ?_
    simp only [Option.some.injEq] at h
    subst h
    exact pG_ret (r := some (.int (Z.1 Z.2.2.1 2))) rfl ⟨rfl, rfl⟩
  rw [if_neg hs106] at h
  by_cases hs108 : ((p0).toInt - 0).toNat = 3
  · rw [if_pos hs108] at h
    refine pG_tsi (t := 92) (j := 3) (o := 91) rfl hs101 hs108 rfl rfl ?_
    refine pG_many 1 (pc1 := 93) (L1 := [some (.ref 0), some (.int p0)]) (st1 := [.ref 0]) (M1 := mjTo Z) (fun _ _ => rfl) ?_
    refine pG_getR (ci := 11) (f := 2) (b := Z.2.2.1) rfl rfl rfl (by rfl) (by decide) rfl ?_
    have hk109 : mjIs Z.2.2.1 211 2 = true := by
      by_cases q9 : mjIs Z.2.2.1 211 2 = true
      · exact q9
      · rw [if_neg q9] at h; cases h
    rw [if_pos hk109] at h
    refine pG_getI (ci := 2) (f := 3) rfl rfl (Or.inl rfl) hk109 (by decide) ?_
    simp only [Option.some.injEq] at h
    subst h
    exact pG_ret (r := some (.int (Z.1 Z.2.2.1 3))) rfl ⟨rfl, rfl⟩
  rw [if_neg hs108] at h
  by_cases hs110 : ((p0).toInt - 0).toNat = 4
  · rw [if_pos hs110] at h
    refine pG_tsi (t := 100) (j := 4) (o := 99) rfl hs101 hs110 rfl rfl ?_
    refine pG_many 1 (pc1 := 101) (L1 := [some (.ref 0), some (.int p0)]) (st1 := [.ref 0]) (M1 := mjTo Z) (fun _ _ => rfl) ?_
    refine pG_getR (ci := 11) (f := 2) (b := Z.2.2.1) rfl rfl rfl (by rfl) (by decide) rfl ?_
    have hk111 : mjIs Z.2.2.1 211 2 = true := by
      by_cases q9 : mjIs Z.2.2.1 211 2 = true
      · exact q9
      · rw [if_neg q9] at h; cases h
    rw [if_pos hk111] at h
    refine pG_getI (ci := 2) (f := 4) rfl rfl (Or.inl rfl) hk111 (by decide) ?_
    simp only [Option.some.injEq] at h
    subst h
    exact pG_ret (r := some (.int (Z.1 Z.2.2.1 4))) rfl ⟨rfl, rfl⟩
  rw [if_neg hs110] at h
  by_cases hs112 : ((p0).toInt - 0).toNat = 5
  · rw [if_pos hs112] at h
    refine pG_tsi (t := 108) (j := 5) (o := 107) rfl hs101 hs112 rfl rfl ?_
    refine pG_many 1 (pc1 := 109) (L1 := [some (.ref 0), some (.int p0)]) (st1 := [.ref 0]) (M1 := mjTo Z) (fun _ _ => rfl) ?_
    refine pG_getR (ci := 11) (f := 2) (b := Z.2.2.1) rfl rfl rfl (by rfl) (by decide) rfl ?_
    have hk113 : mjIs Z.2.2.1 211 2 = true := by
      by_cases q9 : mjIs Z.2.2.1 211 2 = true
      · exact q9
      · rw [if_neg q9] at h; cases h
    rw [if_pos hk113] at h
    refine pG_getI (ci := 2) (f := 5) rfl rfl (Or.inl rfl) hk113 (by decide) ?_
    simp only [Option.some.injEq] at h
    subst h
    exact pG_ret (r := some (.int (Z.1 Z.2.2.1 5))) rfl ⟨rfl, rfl⟩
  rw [if_neg hs112] at h
  by_cases hs114 : ((p0).toInt - 0).toNat = 6
  · rw [if_pos hs114] at h
    refine pG_tsi (t := 116) (j := 6) (o := 115) rfl hs101 hs114 rfl rfl ?_
    refine pG_many 1 (pc1 := 117) (L1 := [some (.ref 0), some (.int p0)]) (st1 := [.ref 0]) (M1 := mjTo Z) (fun _ _ => rfl) ?_
    refine pG_getR (ci := 11) (f := 2) (b := Z.2.2.1) rfl rfl rfl (by rfl) (by decide) rfl ?_
    have hk115 : mjIs Z.2.2.1 211 2 = true := by
      by_cases q9 : mjIs Z.2.2.1 211 2 = true
      · exact q9
      · rw [if_neg q9] at h; cases h
    rw [if_pos hk115] at h
    refine pG_getI (ci := 2) (f := 7) rfl rfl (Or.inl rfl) hk115 (by decide) ?_
    simp only [Option.some.injEq] at h
    subst h
    exact pG_ret (r := some (.int (Z.1 Z.2.2.1 7))) rfl ⟨rfl, rfl⟩
  rw [if_neg hs114] at h
  by_cases hs116 : ((p0).toInt - 0).toNat = 7
  · rw [if_pos hs116] at h
    refine pG_tsi (t := 124) (j := 7) (o := 123) rfl hs101 hs116 rfl rfl ?_
    refine pG_many 1 (pc1 := 125) (L1 := [some (.ref 0), some (.int p0)]) (st1 := [.ref 0]) (M1 := mjTo Z) (fun _ _ => rfl) ?_
    refine pG_getR (ci := 11) (f := 2) (b := Z.2.2.1) rfl rfl rfl (by rfl) (by decide) rfl ?_
    have hk117 : mjIs Z.2.2.1 211 2 = true := by
      by_cases q9 : mjIs Z.2.2.1 211 2 = true
      · exact q9
      · rw [if_neg q9] at h; cases h
    rw [if_pos hk117] at h
    refine pG_getI (ci := 2) (f := 6) rfl rfl (Or.inl rfl) hk117 (by decide) ?_
    simp only [Option.some.injEq] at h
    subst h
    exact pG_ret (r := some (.int (Z.1 Z.2.2.1 6))) rfl ⟨rfl, rfl⟩
  rw [if_neg hs116] at h
  by_cases hs118 : ((p0).toInt - 0).toNat = 8
  · rw [if_pos hs118] at h
    refine pG_tsi (t := 132) (j := 8) (o := 131) rfl hs101 hs118 rfl rfl ?_
    refine pG_many 1 (pc1 := 133) (L1 := [some (.ref 0), some (.int p0)]) (st1 := [.ref 0]) (M1 := mjTo Z) (fun _ _ => rfl) ?_
    refine pG_getR (ci := 11) (f := 2) (b := Z.2.2.1) rfl rfl rfl (by rfl) (by decide) rfl ?_
    have hk119 : mjIs Z.2.2.1 211 2 = true := by
      by_cases q9 : mjIs Z.2.2.1 211 2 = true
      · exact q9
      · rw [if_neg q9] at h; cases h
    rw [if_pos hk119] at h
    refine pG_getI (ci := 2) (f := 8) rfl rfl (Or.inl rfl) hk119 (by decide) ?_
    simp only [Option.some.injEq] at h
    subst h
    exact pG_ret (r := some (.int (Z.1 Z.2.2.1 8))) rfl ⟨rfl, rfl⟩
  rw [if_neg hs118] at h
  by_cases hs120 : ((p0).toInt - 0).toNat = 9
  · rw [if_pos hs120] at h
    refine pG_tsi (t := 140) (j := 9) (o := 139) rfl hs101 hs120 rfl rfl ?_
    refine pG_many 1 (pc1 := 141) (L1 := [some (.ref 0), some (.int p0)]) (st1 := [.ref 0]) (M1 := mjTo Z) (fun _ _ => rfl) ?_
    refine pG_getR (ci := 11) (f := 2) (b := Z.2.2.1) rfl rfl rfl (by rfl) (by decide) rfl ?_
    have hk121 : mjIs Z.2.2.1 211 2 = true := by
      by_cases q9 : mjIs Z.2.2.1 211 2 = true
      · exact q9
      · rw [if_neg q9] at h; cases h
    rw [if_pos hk121] at h
    refine pG_getI (ci := 2) (f := 9) rfl rfl (Or.inl rfl) hk121 (by decide) ?_
    simp only [Option.some.injEq] at h
    subst h
    exact pG_ret (r := some (.int (Z.1 Z.2.2.1 9))) rfl ⟨rfl, rfl⟩
  rw [if_neg hs120] at h
  by_cases hs122 : ((p0).toInt - 0).toNat = 10
  · rw [if_pos hs122] at h
    refine pG_tsi (t := 148) (j := 10) (o := 147) rfl hs101 hs122 rfl rfl ?_
    refine pG_many 1 (pc1 := 149) (L1 := [some (.ref 0), some (.int p0)]) (st1 := [.ref 0]) (M1 := mjTo Z) (fun _ _ => rfl) ?_
    refine pG_getR (ci := 11) (f := 2) (b := Z.2.2.1) rfl rfl rfl (by rfl) (by decide) rfl ?_
    have hk123 : mjIs Z.2.2.1 211 2 = true := by
      by_cases q9 : mjIs Z.2.2.1 211 2 = true
      · exact q9
      · rw [if_neg q9] at h; cases h
    rw [if_pos hk123] at h
    refine pG_getI (ci := 2) (f := 10) rfl rfl (Or.inl rfl) hk123 (by decide) ?_
    simp only [Option.some.injEq] at h
    subst h
    exact pG_ret (r := some (.int (Z.1 Z.2.2.1 10))) rfl ⟨rfl, rfl⟩
  rw [if_neg hs122] at h
  by_cases hs124 : ((p0).toInt - 0).toNat = 11
  · rw [if_pos hs124] at h
    refine pG_tsi (t := 156) (j := 11) (o := 155) rfl hs101 hs124 rfl rfl ?_
    refine pG_many 1 (pc1 := 157) (L1 := [some (.ref 0), some (.int p0)]) (st1 := [.ref 0]) (M1 := mjTo Z) (fun _ _ => rfl) ?_
    refine pG_getR (ci := 11) (f := 9) (b := 209) rfl rfl rfl (by rfl) (by decide) rfl ?_
    refine pG_getI (ci := 1) (f := 2) rfl rfl (Or.inl rfl) (by rfl) (by decide) ?_
    simp only [Option.some.injEq] at h
    subst h
    exact pG_ret (r := some (.int (Z.1 209 2))) rfl ⟨rfl, rfl⟩
  rw [if_neg hs124] at h
  by_cases hs125 : ((p0).toInt - 0).toNat = 12
  · rw [if_pos hs125] at h
    refine pG_tsi (t := 164) (j := 12) (o := 163) rfl hs101 hs125 rfl rfl ?_
    refine pG_many 1 (pc1 := 165) (L1 := [some (.ref 0), some (.int p0)]) (st1 := [.ref 0]) (M1 := mjTo Z) (fun _ _ => rfl) ?_
    refine pG_getI (ci := 11) (f := 1) rfl rfl (Or.inl rfl) (by rfl) (by decide) ?_
    simp only [Option.some.injEq] at h
    subst h
    exact pG_ret (r := some (.int (Z.1 0 1))) rfl ⟨rfl, rfl⟩
  rw [if_neg hs125] at h
  cases h
def f156_team (p0 : Int32) (p1 : Int32) (Z : mjZt) : Option Int32 :=
  if mjIs Z.2.2.1 211 2 = true then
  mjBp (f7_hasTeam Z.2.2.1 p0 Z) fun v103 =>
  if mjCmp .ne v103 0 = true then
    mjBp (f8_runner Z.2.2.1 p0 Z) fun v107 =>
    if (p1).toInt < 0 ∨ 3 < (p1).toInt then
      some ((-1))
    else if ((p1).toInt - 0).toNat = 0 then
      if mjIs v107 211 7 = true then
      some (Z.1 v107 5)
      else none
    else if ((p1).toInt - 0).toNat = 1 then
      if mjIs v107 211 7 = true then
      some (Z.1 v107 6)
      else none
    else if ((p1).toInt - 0).toNat = 2 then
      if mjIs v107 211 7 = true then
      mjBp (f99_time v107 Z) fun v117 =>
      some v117
      else none
    else if ((p1).toInt - 0).toNat = 3 then
      mjBp (f23_isWhole Z.2.2.1 p0 Z) fun v121 =>
      if mjCmp .eq v121 0 = true then
        some 0
      else
        some 1
    else none
  else
    some ((-1))
  else none
theorem f156_team_ok {p0 : Int32} {p1 : Int32} {Z : mjZt} {v9 : Int32} (h : f156_team p0 p1 Z = some v9) : pG 141 0 (mjEnt [.ref 0, .int p0, .int p1] (mjML 141)) [] (mjTo Z) (fun r M1 => r = some (.int v9) ∧ M1 = mjTo Z) := by
  unfold f156_team at h
  show pG 141 0 [some (.ref 0), some (.int p0), some (.int p1), none] [] (mjTo Z) _
  refine pG_many 1 (pc1 := 1) (L1 := [some (.ref 0), some (.int p0), some (.int p1), none]) (st1 := [.ref 0]) (M1 := mjTo Z) (fun _ _ => rfl) ?_
  refine pG_getR (ci := 11) (f := 2) (b := Z.2.2.1) rfl rfl rfl (by rfl) (by decide) rfl ?_
  refine pG_many 1 (pc1 := 5) (L1 := [some (.ref 0), some (.int p0), some (.int p1), none]) (st1 := [.int p0, .ref Z.2.2.1]) (M1 := mjTo Z) (fun _ _ => rfl) ?_
  have hk101 : mjIs Z.2.2.1 211 2 = true := by
    by_cases q9 : mjIs Z.2.2.1 211 2 = true
    · exact q9
    · rw [if_neg q9] at h; cases h
  rw [if_pos hk101] at h
  cases hq102 : f7_hasTeam Z.2.2.1 p0 Z with
  | none => rw [hq102] at h; cases h
  | some v103 =>
    rw [hq102, mjBp_some] at h
    refine pG_callV (k2 := 7) (As := [.ref Z.2.2.1, .int p0]) (rest := []) rfl rfl rfl rfl rfl (mjRcv_is hk101 (by decide)) (by decide) (by decide) (f7_hasTeam_ok hq102) ?_
    rintro r9 M9 ⟨rfl, rfl⟩
    show pG 141 8 [some (.ref 0), some (.int p0), some (.int p1), none] [.int v103] (mjTo Z) _
    by_cases hc105 : mjCmp .ne v103 0 = true
    · rw [if_pos hc105] at h
      refine pG_ift (t := 13) rfl rfl hc105 ?_
      refine pG_many 1 (pc1 := 14) (L1 := [some (.ref 0), some (.int p0), some (.int p1), none]) (st1 := [.ref 0]) (M1 := mjTo Z) (fun _ _ => rfl) ?_
      refine pG_getR (ci := 11) (f := 2) (b := Z.2.2.1) rfl rfl rfl (by rfl) (by decide) rfl ?_
      refine pG_many 1 (pc1 := 18) (L1 := [some (.ref 0), some (.int p0), some (.int p1), none]) (st1 := [.int p0, .ref Z.2.2.1]) (M1 := mjTo Z) (fun _ _ => rfl) ?_
      cases hq106 : f8_runner Z.2.2.1 p0 Z with
      | none => rw [hq106] at h; cases h
      | some v107 =>
        rw [hq106, mjBp_some] at h
        refine pG_callV (k2 := 8) (As := [.ref Z.2.2.1, .int p0]) (rest := []) rfl rfl rfl rfl rfl (mjRcv_is hk101 (by decide)) (by decide) (by decide) (f8_runner_ok hq106) ?_
        rintro r9 M9 ⟨rfl, rfl⟩
        show pG 141 21 [some (.ref 0), some (.int p0), some (.int p1), none] [.ref v107] (mjTo Z) _
        refine pG_many 2 (pc1 := 23) (L1 := [some (.ref 0), some (.int p0), some (.int p1), some (.ref v107)]) (st1 := [.int p1]) (M1 := mjTo Z) (fun _ _ => rfl) ?_
        by_cases hs109 : (p1).toInt < 0 ∨ 3 < (p1).toInt
        · rw [if_pos hs109] at h
          refine pG_tso (t := 84) rfl hs109 rfl ?_
          refine pG_many 1 (pc1 := 85) (L1 := [some (.ref 0), some (.int p0), some (.int p1), some (.ref v107)]) (st1 := [.int ((-1))]) (M1 := mjTo Z) (fun _ _ => rfl) ?_
          simp only [Option.some.injEq] at h
          subst h
          exact pG_ret (r := some (.int ((-1)))) rfl ⟨rfl, rfl⟩
        rw [if_neg hs109] at h
        by_cases hs110 : ((p1).toInt - 0).toNat = 0
        · rw [if_pos hs110] at h
          refine pG_tsi (t := 52) (j := 0) (o := 29) rfl hs109 hs110 rfl rfl ?_
          refine pG_many 1 (pc1 := 53) (L1 := [some (.ref 0), some (.int p0), some (.int p1), some (.ref v107)]) (st1 := [.ref v107]) (M1 := mjTo Z) (fun _ _ => rfl) ?_
          have hk111 : mjIs v107 211 7 = true := by
            by_cases q9 : mjIs v107 211 7 = true
            · exact q9
            · rw [if_neg q9] at h; cases h
          rw [if_pos hk111] at h
          refine pG_getI (ci := 7) (f := 5) rfl rfl (Or.inl rfl) hk111 (by decide) ?_
          simp only [Option.some.injEq] at h
          subst h
          exact pG_ret (r := some (.int (Z.1 v107 5))) rfl ⟨rfl, rfl⟩
        rw [if_neg hs110] at h
        by_cases hs112 : ((p1).toInt - 0).toNat = 1
        · rw [if_pos hs112] at h
          refine pG_tsi (t := 57) (j := 1) (o := 34) rfl hs109 hs112 rfl rfl ?_
          refine pG_many 1 (pc1 := 58) (L1 := [some (.ref 0), some (.int p0), some (.int p1), some (.ref v107)]) (st1 := [.ref v107]) (M1 := mjTo Z) (fun _ _ => rfl) ?_
          have hk113 : mjIs v107 211 7 = true := by
            by_cases q9 : mjIs v107 211 7 = true
            · exact q9
            · rw [if_neg q9] at h; cases h
          rw [if_pos hk113] at h
          refine pG_getI (ci := 7) (f := 6) rfl rfl (Or.inl rfl) hk113 (by decide) ?_
          simp only [Option.some.injEq] at h
          subst h
          exact pG_ret (r := some (.int (Z.1 v107 6))) rfl ⟨rfl, rfl⟩
        rw [if_neg hs112] at h
        by_cases hs114 : ((p1).toInt - 0).toNat = 2
        · rw [if_pos hs114] at h
          refine pG_tsi (t := 62) (j := 2) (o := 39) rfl hs109 hs114 rfl rfl ?_
          refine pG_many 1 (pc1 := 63) (L1 := [some (.ref 0), some (.int p0), some (.int p1), some (.ref v107)]) (st1 := [.ref v107]) (M1 := mjTo Z) (fun _ _ => rfl) ?_
          have hk115 : mjIs v107 211 7 = true := by
            by_cases q9 : mjIs v107 211 7 = true
            · exact q9
            · rw [if_neg q9] at h; cases h
          rw [if_pos hk115] at h
          cases hq116 : f99_time v107 Z with
          | none => rw [hq116] at h; cases h
          | some v117 =>
            rw [hq116, mjBp_some] at h
            refine pG_callV (k2 := 96) (As := [.ref v107]) (rest := []) rfl rfl rfl rfl rfl (mjRcv_is hk115 (by decide)) (by decide) (by decide) (f99_time_ok hq116) ?_
            rintro r9 M9 ⟨rfl, rfl⟩
            show pG 141 66 [some (.ref 0), some (.int p0), some (.int p1), some (.ref v107)] [.int v117] (mjTo Z) _
            simp only [Option.some.injEq] at h
            subst h
            exact pG_ret (r := some (.int v117)) rfl ⟨rfl, rfl⟩
        rw [if_neg hs114] at h
        by_cases hs119 : ((p1).toInt - 0).toNat = 3
        · rw [if_pos hs119] at h
          refine pG_tsi (t := 67) (j := 3) (o := 44) rfl hs109 hs119 rfl rfl ?_
          refine pG_many 1 (pc1 := 68) (L1 := [some (.ref 0), some (.int p0), some (.int p1), some (.ref v107)]) (st1 := [.ref 0]) (M1 := mjTo Z) (fun _ _ => rfl) ?_
          refine pG_getR (ci := 11) (f := 2) (b := Z.2.2.1) rfl rfl rfl (by rfl) (by decide) rfl ?_
          refine pG_many 1 (pc1 := 72) (L1 := [some (.ref 0), some (.int p0), some (.int p1), some (.ref v107)]) (st1 := [.int p0, .ref Z.2.2.1]) (M1 := mjTo Z) (fun _ _ => rfl) ?_
          cases hq120 : f23_isWhole Z.2.2.1 p0 Z with
          | none => rw [hq120] at h; cases h
          | some v121 =>
            rw [hq120, mjBp_some] at h
            refine pG_callV (k2 := 23) (As := [.ref Z.2.2.1, .int p0]) (rest := []) rfl rfl rfl rfl rfl (mjRcv_is hk101 (by decide)) (by decide) (by decide) (f23_isWhole_ok hq120) ?_
            rintro r9 M9 ⟨rfl, rfl⟩
            show pG 141 75 [some (.ref 0), some (.int p0), some (.int p1), some (.ref v107)] [.int v121] (mjTo Z) _
            by_cases hc123 : mjCmp .eq v121 0 = true
            · rw [if_pos hc123] at h
              refine pG_ift (t := 82) rfl rfl hc123 ?_
              refine pG_many 1 (pc1 := 83) (L1 := [some (.ref 0), some (.int p0), some (.int p1), some (.ref v107)]) (st1 := [.int 0]) (M1 := mjTo Z) (fun _ _ => rfl) ?_
              simp only [Option.some.injEq] at h
              subst h
              exact pG_ret (r := some (.int 0)) rfl ⟨rfl, rfl⟩
            · rw [if_neg hc123] at h
              refine pG_iff (t := 82) rfl rfl hc123 ?_
              refine pG_many 2 (pc1 := 83) (L1 := [some (.ref 0), some (.int p0), some (.int p1), some (.ref v107)]) (st1 := [.int 1]) (M1 := mjTo Z) (fun _ _ => rfl) ?_
              simp only [Option.some.injEq] at h
              subst h
              exact pG_ret (r := some (.int 1)) rfl ⟨rfl, rfl⟩
        rw [if_neg hs119] at h
        cases h
    · rw [if_neg hc105] at h
      refine pG_iff (t := 13) rfl rfl hc105 ?_
      refine pG_many 1 (pc1 := 12) (L1 := [some (.ref 0), some (.int p0), some (.int p1), none]) (st1 := [.int ((-1))]) (M1 := mjTo Z) (fun _ _ => rfl) ?_
      simp only [Option.some.injEq] at h
      subst h
      exact pG_ret (r := some (.int ((-1)))) rfl ⟨rfl, rfl⟩
def f157_lane (p0 : Int32) (Z : mjZt) : Option Int32 :=
  if mjIs Z.2.2.1 211 2 = true then
  mjBp (f24_teamInLane Z.2.2.1 p0 Z) fun v103 =>
  some v103
  else none
theorem f157_lane_ok {p0 : Int32} {Z : mjZt} {v9 : Int32} (h : f157_lane p0 Z = some v9) : pG 142 0 (mjEnt [.ref 0, .int p0] (mjML 142)) [] (mjTo Z) (fun r M1 => r = some (.int v9) ∧ M1 = mjTo Z) := by
  unfold f157_lane at h
  show pG 142 0 [some (.ref 0), some (.int p0)] [] (mjTo Z) _
  refine pG_many 1 (pc1 := 1) (L1 := [some (.ref 0), some (.int p0)]) (st1 := [.ref 0]) (M1 := mjTo Z) (fun _ _ => rfl) ?_
  refine pG_getR (ci := 11) (f := 2) (b := Z.2.2.1) rfl rfl rfl (by rfl) (by decide) rfl ?_
  refine pG_many 1 (pc1 := 5) (L1 := [some (.ref 0), some (.int p0)]) (st1 := [.int p0, .ref Z.2.2.1]) (M1 := mjTo Z) (fun _ _ => rfl) ?_
  have hk101 : mjIs Z.2.2.1 211 2 = true := by
    by_cases q9 : mjIs Z.2.2.1 211 2 = true
    · exact q9
    · rw [if_neg q9] at h; cases h
  rw [if_pos hk101] at h
  cases hq102 : f24_teamInLane Z.2.2.1 p0 Z with
  | none => rw [hq102] at h; cases h
  | some v103 =>
    rw [hq102, mjBp_some] at h
    refine pG_callV (k2 := 24) (As := [.ref Z.2.2.1, .int p0]) (rest := []) rfl rfl rfl rfl rfl (mjRcv_is hk101 (by decide)) (by decide) (by decide) (f24_teamInLane_ok hq102) ?_
    rintro r9 M9 ⟨rfl, rfl⟩
    show pG 142 8 [some (.ref 0), some (.int p0)] [.int v103] (mjTo Z) _
    simp only [Option.some.injEq] at h
    subst h
    exact pG_ret (r := some (.int v103)) rfl ⟨rfl, rfl⟩
def f158_isTenth (p0 : Int32) (Z : mjZt) : Option Int32 :=
  if mjCmp .lt p0 0 = true then
    some 0
  else
    if mjCmp .gt p0 9999 = true then
      some 0
    else
      some 1
theorem f158_isTenth_ok {p0 : Int32} {Z : mjZt} {v9 : Int32} (h : f158_isTenth p0 Z = some v9) : pG 143 0 (mjEnt [.int p0] (mjML 143)) [] (mjTo Z) (fun r M1 => r = some (.int v9) ∧ M1 = mjTo Z) := by
  unfold f158_isTenth at h
  show pG 143 0 [some (.int p0)] [] (mjTo Z) _
  refine pG_many 1 (pc1 := 1) (L1 := [some (.int p0)]) (st1 := [.int p0]) (M1 := mjTo Z) (fun _ _ => rfl) ?_
  by_cases hc101 : mjCmp .lt p0 0 = true
  · rw [if_pos hc101] at h
    refine pG_ift (t := 15) rfl rfl hc101 ?_
    refine pG_many 1 (pc1 := 16) (L1 := [some (.int p0)]) (st1 := [.int 0]) (M1 := mjTo Z) (fun _ _ => rfl) ?_
    simp only [Option.some.injEq] at h
    subst h
    exact pG_ret (r := some (.int 0)) rfl ⟨rfl, rfl⟩
  · rw [if_neg hc101] at h
    refine pG_iff (t := 15) rfl rfl hc101 ?_
    refine pG_many 2 (pc1 := 8) (L1 := [some (.int p0)]) (st1 := [.int 9999, .int p0]) (M1 := mjTo Z) (fun _ _ => rfl) ?_
    by_cases hc102 : mjCmp .gt p0 9999 = true
    · rw [if_pos hc102] at h
      refine pG_cmt (t := 15) rfl rfl hc102 ?_
      refine pG_many 1 (pc1 := 16) (L1 := [some (.int p0)]) (st1 := [.int 0]) (M1 := mjTo Z) (fun _ _ => rfl) ?_
      simp only [Option.some.injEq] at h
      subst h
      exact pG_ret (r := some (.int 0)) rfl ⟨rfl, rfl⟩
    · rw [if_neg hc102] at h
      refine pG_cmf (t := 15) rfl rfl hc102 ?_
      refine pG_many 2 (pc1 := 16) (L1 := [some (.int p0)]) (st1 := [.int 1]) (M1 := mjTo Z) (fun _ _ => rfl) ?_
      simp only [Option.some.injEq] at h
      subst h
      exact pG_ret (r := some (.int 1)) rfl ⟨rfl, rfl⟩
def f159_place (p0 : Int32) (p1 : Int32) (Z : mjZt) : Option Int32 :=
  if mjIs Z.2.2.1 211 2 = true then
  mjBp (f7_hasTeam Z.2.2.1 p0 Z) fun v103 =>
  if mjCmp .eq v103 0 = true then
    some ((-1))
  else
    mjBp (f158_isTenth p1 Z) fun v107 =>
    if mjCmp .ne v107 0 = true then
      mjBp (f8_runner Z.2.2.1 p0 Z) fun v111 =>
      if mjIs v111 211 7 = true then
      mjBp (f73_whereAt v111 p1 Z) fun v115 =>
      some v115
      else none
    else
      some ((-1))
  else none
theorem f159_place_ok {p0 : Int32} {p1 : Int32} {Z : mjZt} {v9 : Int32} (h : f159_place p0 p1 Z = some v9) : pG 144 0 (mjEnt [.ref 0, .int p0, .int p1] (mjML 144)) [] (mjTo Z) (fun r M1 => r = some (.int v9) ∧ M1 = mjTo Z) := by
  unfold f159_place at h
  show pG 144 0 [some (.ref 0), some (.int p0), some (.int p1)] [] (mjTo Z) _
  refine pG_many 1 (pc1 := 1) (L1 := [some (.ref 0), some (.int p0), some (.int p1)]) (st1 := [.ref 0]) (M1 := mjTo Z) (fun _ _ => rfl) ?_
  refine pG_getR (ci := 11) (f := 2) (b := Z.2.2.1) rfl rfl rfl (by rfl) (by decide) rfl ?_
  refine pG_many 1 (pc1 := 5) (L1 := [some (.ref 0), some (.int p0), some (.int p1)]) (st1 := [.int p0, .ref Z.2.2.1]) (M1 := mjTo Z) (fun _ _ => rfl) ?_
  have hk101 : mjIs Z.2.2.1 211 2 = true := by
    by_cases q9 : mjIs Z.2.2.1 211 2 = true
    · exact q9
    · rw [if_neg q9] at h; cases h
  rw [if_pos hk101] at h
  cases hq102 : f7_hasTeam Z.2.2.1 p0 Z with
  | none => rw [hq102] at h; cases h
  | some v103 =>
    rw [hq102, mjBp_some] at h
    refine pG_callV (k2 := 7) (As := [.ref Z.2.2.1, .int p0]) (rest := []) rfl rfl rfl rfl rfl (mjRcv_is hk101 (by decide)) (by decide) (by decide) (f7_hasTeam_ok hq102) ?_
    rintro r9 M9 ⟨rfl, rfl⟩
    show pG 144 8 [some (.ref 0), some (.int p0), some (.int p1)] [.int v103] (mjTo Z) _
    by_cases hc105 : mjCmp .eq v103 0 = true
    · rw [if_pos hc105] at h
      refine pG_ift (t := 18) rfl rfl hc105 ?_
      refine pG_many 1 (pc1 := 19) (L1 := [some (.ref 0), some (.int p0), some (.int p1)]) (st1 := [.int ((-1))]) (M1 := mjTo Z) (fun _ _ => rfl) ?_
      simp only [Option.some.injEq] at h
      subst h
      exact pG_ret (r := some (.int ((-1)))) rfl ⟨rfl, rfl⟩
    · rw [if_neg hc105] at h
      refine pG_iff (t := 18) rfl rfl hc105 ?_
      refine pG_many 1 (pc1 := 12) (L1 := [some (.ref 0), some (.int p0), some (.int p1)]) (st1 := [.int p1]) (M1 := mjTo Z) (fun _ _ => rfl) ?_
      cases hq106 : f158_isTenth p1 Z with
      | none => rw [hq106] at h; cases h
      | some v107 =>
        rw [hq106, mjBp_some] at h
        refine pG_call (k2 := 143) (As := [.int p1]) (rest := []) (fun _ _ => rfl) (by decide) (by decide) (f158_isTenth_ok hq106) ?_
        rintro r9 M9 ⟨rfl, rfl⟩
        show pG 144 15 [some (.ref 0), some (.int p0), some (.int p1)] [.int v107] (mjTo Z) _
        by_cases hc109 : mjCmp .ne v107 0 = true
        · rw [if_pos hc109] at h
          refine pG_ift (t := 20) rfl rfl hc109 ?_
          refine pG_many 1 (pc1 := 21) (L1 := [some (.ref 0), some (.int p0), some (.int p1)]) (st1 := [.ref 0]) (M1 := mjTo Z) (fun _ _ => rfl) ?_
          refine pG_getR (ci := 11) (f := 2) (b := Z.2.2.1) rfl rfl rfl (by rfl) (by decide) rfl ?_
          refine pG_many 1 (pc1 := 25) (L1 := [some (.ref 0), some (.int p0), some (.int p1)]) (st1 := [.int p0, .ref Z.2.2.1]) (M1 := mjTo Z) (fun _ _ => rfl) ?_
          cases hq110 : f8_runner Z.2.2.1 p0 Z with
          | none => rw [hq110] at h; cases h
          | some v111 =>
            rw [hq110, mjBp_some] at h
            refine pG_callV (k2 := 8) (As := [.ref Z.2.2.1, .int p0]) (rest := []) rfl rfl rfl rfl rfl (mjRcv_is hk101 (by decide)) (by decide) (by decide) (f8_runner_ok hq110) ?_
            rintro r9 M9 ⟨rfl, rfl⟩
            show pG 144 28 [some (.ref 0), some (.int p0), some (.int p1)] [.ref v111] (mjTo Z) _
            refine pG_many 1 (pc1 := 29) (L1 := [some (.ref 0), some (.int p0), some (.int p1)]) (st1 := [.int p1, .ref v111]) (M1 := mjTo Z) (fun _ _ => rfl) ?_
            have hk113 : mjIs v111 211 7 = true := by
              by_cases q9 : mjIs v111 211 7 = true
              · exact q9
              · rw [if_neg q9] at h; cases h
            rw [if_pos hk113] at h
            cases hq114 : f73_whereAt v111 p1 Z with
            | none => rw [hq114] at h; cases h
            | some v115 =>
              rw [hq114, mjBp_some] at h
              refine pG_callV (k2 := 72) (As := [.ref v111, .int p1]) (rest := []) rfl rfl rfl rfl rfl (mjRcv_is hk113 (by decide)) (by decide) (by decide) (f73_whereAt_ok hq114) ?_
              rintro r9 M9 ⟨rfl, rfl⟩
              show pG 144 32 [some (.ref 0), some (.int p0), some (.int p1)] [.int v115] (mjTo Z) _
              simp only [Option.some.injEq] at h
              subst h
              exact pG_ret (r := some (.int v115)) rfl ⟨rfl, rfl⟩
        · rw [if_neg hc109] at h
          refine pG_iff (t := 20) rfl rfl hc109 ?_
          refine pG_many 1 (pc1 := 19) (L1 := [some (.ref 0), some (.int p0), some (.int p1)]) (st1 := [.int ((-1))]) (M1 := mjTo Z) (fun _ _ => rfl) ?_
          simp only [Option.some.injEq] at h
          subst h
          exact pG_ret (r := some (.int ((-1)))) rfl ⟨rfl, rfl⟩
def f160_comes (p0 : Int32) (p1 : Int32) (Z : mjZt) : Option Int32 :=
  if mjIs Z.2.2.1 211 2 = true then
  mjBp (f7_hasTeam Z.2.2.1 p0 Z) fun v103 =>
  if mjCmp .eq v103 0 = true then
    some ((-1))
  else
    if mjCmp .ge p1 0 = true then
      mjBp (f8_runner Z.2.2.1 p0 Z) fun v108 =>
      if mjIs v108 211 7 = true then
      mjBp (f104_arrival v108 p1 Z) fun v112 =>
      some v112
      else none
    else
      some ((-1))
  else none
theorem f160_comes_ok {p0 : Int32} {p1 : Int32} {Z : mjZt} {v9 : Int32} (h : f160_comes p0 p1 Z = some v9) : pG 145 0 (mjEnt [.ref 0, .int p0, .int p1] (mjML 145)) [] (mjTo Z) (fun r M1 => r = some (.int v9) ∧ M1 = mjTo Z) := by
  unfold f160_comes at h
  show pG 145 0 [some (.ref 0), some (.int p0), some (.int p1)] [] (mjTo Z) _
  refine pG_many 1 (pc1 := 1) (L1 := [some (.ref 0), some (.int p0), some (.int p1)]) (st1 := [.ref 0]) (M1 := mjTo Z) (fun _ _ => rfl) ?_
  refine pG_getR (ci := 11) (f := 2) (b := Z.2.2.1) rfl rfl rfl (by rfl) (by decide) rfl ?_
  refine pG_many 1 (pc1 := 5) (L1 := [some (.ref 0), some (.int p0), some (.int p1)]) (st1 := [.int p0, .ref Z.2.2.1]) (M1 := mjTo Z) (fun _ _ => rfl) ?_
  have hk101 : mjIs Z.2.2.1 211 2 = true := by
    by_cases q9 : mjIs Z.2.2.1 211 2 = true
    · exact q9
    · rw [if_neg q9] at h; cases h
  rw [if_pos hk101] at h
  cases hq102 : f7_hasTeam Z.2.2.1 p0 Z with
  | none => rw [hq102] at h; cases h
  | some v103 =>
    rw [hq102, mjBp_some] at h
    refine pG_callV (k2 := 7) (As := [.ref Z.2.2.1, .int p0]) (rest := []) rfl rfl rfl rfl rfl (mjRcv_is hk101 (by decide)) (by decide) (by decide) (f7_hasTeam_ok hq102) ?_
    rintro r9 M9 ⟨rfl, rfl⟩
    show pG 145 8 [some (.ref 0), some (.int p0), some (.int p1)] [.int v103] (mjTo Z) _
    by_cases hc105 : mjCmp .eq v103 0 = true
    · rw [if_pos hc105] at h
      refine pG_ift (t := 15) rfl rfl hc105 ?_
      refine pG_many 1 (pc1 := 16) (L1 := [some (.ref 0), some (.int p0), some (.int p1)]) (st1 := [.int ((-1))]) (M1 := mjTo Z) (fun _ _ => rfl) ?_
      simp only [Option.some.injEq] at h
      subst h
      exact pG_ret (r := some (.int ((-1)))) rfl ⟨rfl, rfl⟩
    · rw [if_neg hc105] at h
      refine pG_iff (t := 15) rfl rfl hc105 ?_
      refine pG_many 1 (pc1 := 12) (L1 := [some (.ref 0), some (.int p0), some (.int p1)]) (st1 := [.int p1]) (M1 := mjTo Z) (fun _ _ => rfl) ?_
      by_cases hc106 : mjCmp .ge p1 0 = true
      · rw [if_pos hc106] at h
        refine pG_ift (t := 17) rfl rfl hc106 ?_
        refine pG_many 1 (pc1 := 18) (L1 := [some (.ref 0), some (.int p0), some (.int p1)]) (st1 := [.ref 0]) (M1 := mjTo Z) (fun _ _ => rfl) ?_
        refine pG_getR (ci := 11) (f := 2) (b := Z.2.2.1) rfl rfl rfl (by rfl) (by decide) rfl ?_
        refine pG_many 1 (pc1 := 22) (L1 := [some (.ref 0), some (.int p0), some (.int p1)]) (st1 := [.int p0, .ref Z.2.2.1]) (M1 := mjTo Z) (fun _ _ => rfl) ?_
        cases hq107 : f8_runner Z.2.2.1 p0 Z with
        | none => rw [hq107] at h; cases h
        | some v108 =>
          rw [hq107, mjBp_some] at h
          refine pG_callV (k2 := 8) (As := [.ref Z.2.2.1, .int p0]) (rest := []) rfl rfl rfl rfl rfl (mjRcv_is hk101 (by decide)) (by decide) (by decide) (f8_runner_ok hq107) ?_
          rintro r9 M9 ⟨rfl, rfl⟩
          show pG 145 25 [some (.ref 0), some (.int p0), some (.int p1)] [.ref v108] (mjTo Z) _
          refine pG_many 1 (pc1 := 26) (L1 := [some (.ref 0), some (.int p0), some (.int p1)]) (st1 := [.int p1, .ref v108]) (M1 := mjTo Z) (fun _ _ => rfl) ?_
          have hk110 : mjIs v108 211 7 = true := by
            by_cases q9 : mjIs v108 211 7 = true
            · exact q9
            · rw [if_neg q9] at h; cases h
          rw [if_pos hk110] at h
          cases hq111 : f104_arrival v108 p1 Z with
          | none => rw [hq111] at h; cases h
          | some v112 =>
            rw [hq111, mjBp_some] at h
            refine pG_callV (k2 := 99) (As := [.ref v108, .int p1]) (rest := []) rfl rfl rfl rfl rfl (mjRcv_is hk110 (by decide)) (by decide) (by decide) (f104_arrival_ok hq111) ?_
            rintro r9 M9 ⟨rfl, rfl⟩
            show pG 145 29 [some (.ref 0), some (.int p0), some (.int p1)] [.int v112] (mjTo Z) _
            simp only [Option.some.injEq] at h
            subst h
            exact pG_ret (r := some (.int v112)) rfl ⟨rfl, rfl⟩
      · rw [if_neg hc106] at h
        refine pG_iff (t := 17) rfl rfl hc106 ?_
        refine pG_many 1 (pc1 := 16) (L1 := [some (.ref 0), some (.int p0), some (.int p1)]) (st1 := [.int ((-1))]) (M1 := mjTo Z) (fun _ _ => rfl) ?_
        simp only [Option.some.injEq] at h
        subst h
        exact pG_ret (r := some (.int ((-1)))) rfl ⟨rfl, rfl⟩
def f163_changes (p0 : Int32) (p1 : Int32) (Z : mjZt) : Option Int32 :=
  if mjIs Z.2.2.1 211 2 = true then
  mjBp (f7_hasTeam Z.2.2.1 p0 Z) fun v103 =>
  if mjCmp .eq v103 0 = true then
    some ((-1))
  else
    mjBp (f7_hasTeam Z.2.2.1 p1 Z) fun v107 =>
    if mjCmp .eq v107 0 = true then
      some ((-1))
    else
      if mjCmp .ne p0 p1 = true then
        mjBp (f103_leadChanges Z.2.2.1 p0 p1 Z) fun v112 =>
        some v112
      else
        some ((-1))
  else none
theorem f163_changes_ok {p0 : Int32} {p1 : Int32} {Z : mjZt} {v9 : Int32} (h : f163_changes p0 p1 Z = some v9) : pG 146 0 (mjEnt [.ref 0, .int p0, .int p1] (mjML 146)) [] (mjTo Z) (fun r M1 => r = some (.int v9) ∧ M1 = mjTo Z) := by
  unfold f163_changes at h
  show pG 146 0 [some (.ref 0), some (.int p0), some (.int p1)] [] (mjTo Z) _
  refine pG_many 1 (pc1 := 1) (L1 := [some (.ref 0), some (.int p0), some (.int p1)]) (st1 := [.ref 0]) (M1 := mjTo Z) (fun _ _ => rfl) ?_
  refine pG_getR (ci := 11) (f := 2) (b := Z.2.2.1) rfl rfl rfl (by rfl) (by decide) rfl ?_
  refine pG_many 1 (pc1 := 5) (L1 := [some (.ref 0), some (.int p0), some (.int p1)]) (st1 := [.int p0, .ref Z.2.2.1]) (M1 := mjTo Z) (fun _ _ => rfl) ?_
  have hk101 : mjIs Z.2.2.1 211 2 = true := by
    by_cases q9 : mjIs Z.2.2.1 211 2 = true
    · exact q9
    · rw [if_neg q9] at h; cases h
  rw [if_pos hk101] at h
  cases hq102 : f7_hasTeam Z.2.2.1 p0 Z with
  | none => rw [hq102] at h; cases h
  | some v103 =>
    rw [hq102, mjBp_some] at h
    refine pG_callV (k2 := 7) (As := [.ref Z.2.2.1, .int p0]) (rest := []) rfl rfl rfl rfl rfl (mjRcv_is hk101 (by decide)) (by decide) (by decide) (f7_hasTeam_ok hq102) ?_
    rintro r9 M9 ⟨rfl, rfl⟩
    show pG 146 8 [some (.ref 0), some (.int p0), some (.int p1)] [.int v103] (mjTo Z) _
    by_cases hc105 : mjCmp .eq v103 0 = true
    · rw [if_pos hc105] at h
      refine pG_ift (t := 27) rfl rfl hc105 ?_
      refine pG_many 1 (pc1 := 28) (L1 := [some (.ref 0), some (.int p0), some (.int p1)]) (st1 := [.int ((-1))]) (M1 := mjTo Z) (fun _ _ => rfl) ?_
      simp only [Option.some.injEq] at h
      subst h
      exact pG_ret (r := some (.int ((-1)))) rfl ⟨rfl, rfl⟩
    · rw [if_neg hc105] at h
      refine pG_iff (t := 27) rfl rfl hc105 ?_
      refine pG_many 1 (pc1 := 12) (L1 := [some (.ref 0), some (.int p0), some (.int p1)]) (st1 := [.ref 0]) (M1 := mjTo Z) (fun _ _ => rfl) ?_
      refine pG_getR (ci := 11) (f := 2) (b := Z.2.2.1) rfl rfl rfl (by rfl) (by decide) rfl ?_
      refine pG_many 1 (pc1 := 16) (L1 := [some (.ref 0), some (.int p0), some (.int p1)]) (st1 := [.int p1, .ref Z.2.2.1]) (M1 := mjTo Z) (fun _ _ => rfl) ?_
      cases hq106 : f7_hasTeam Z.2.2.1 p1 Z with
      | none => rw [hq106] at h; cases h
      | some v107 =>
        rw [hq106, mjBp_some] at h
        refine pG_callV (k2 := 7) (As := [.ref Z.2.2.1, .int p1]) (rest := []) rfl rfl rfl rfl rfl (mjRcv_is hk101 (by decide)) (by decide) (by decide) (f7_hasTeam_ok hq106) ?_
        rintro r9 M9 ⟨rfl, rfl⟩
        show pG 146 19 [some (.ref 0), some (.int p0), some (.int p1)] [.int v107] (mjTo Z) _
        by_cases hc109 : mjCmp .eq v107 0 = true
        · rw [if_pos hc109] at h
          refine pG_ift (t := 27) rfl rfl hc109 ?_
          refine pG_many 1 (pc1 := 28) (L1 := [some (.ref 0), some (.int p0), some (.int p1)]) (st1 := [.int ((-1))]) (M1 := mjTo Z) (fun _ _ => rfl) ?_
          simp only [Option.some.injEq] at h
          subst h
          exact pG_ret (r := some (.int ((-1)))) rfl ⟨rfl, rfl⟩
        · rw [if_neg hc109] at h
          refine pG_iff (t := 27) rfl rfl hc109 ?_
          refine pG_many 2 (pc1 := 24) (L1 := [some (.ref 0), some (.int p0), some (.int p1)]) (st1 := [.int p1, .int p0]) (M1 := mjTo Z) (fun _ _ => rfl) ?_
          by_cases hc110 : mjCmp .ne p0 p1 = true
          · rw [if_pos hc110] at h
            refine pG_cmt (t := 29) rfl rfl hc110 ?_
            refine pG_many 1 (pc1 := 30) (L1 := [some (.ref 0), some (.int p0), some (.int p1)]) (st1 := [.ref 0]) (M1 := mjTo Z) (fun _ _ => rfl) ?_
            refine pG_getR (ci := 11) (f := 5) (b := 188) rfl rfl rfl (by rfl) (by decide) rfl ?_
            refine pG_many 1 (pc1 := 34) (L1 := [some (.ref 0), some (.int p0), some (.int p1)]) (st1 := [.ref 0, .ref 188]) (M1 := mjTo Z) (fun _ _ => rfl) ?_
            refine pG_getR (ci := 11) (f := 2) (b := Z.2.2.1) rfl rfl rfl (by rfl) (by decide) rfl ?_
            refine pG_many 2 (pc1 := 39) (L1 := [some (.ref 0), some (.int p0), some (.int p1)]) (st1 := [.int p1, .int p0, .ref Z.2.2.1, .ref 188]) (M1 := mjTo Z) (fun _ _ => rfl) ?_
            cases hq111 : f103_leadChanges Z.2.2.1 p0 p1 Z with
            | none => rw [hq111] at h; cases h
            | some v112 =>
              rw [hq111, mjBp_some] at h
              refine pG_callV (k2 := 98) (As := [.ref 188, .ref Z.2.2.1, .int p0, .int p1]) (rest := []) rfl rfl rfl rfl rfl (by rfl) (by decide) (by decide) (f103_leadChanges_ok hq111) ?_
              rintro r9 M9 ⟨rfl, rfl⟩
              show pG 146 42 [some (.ref 0), some (.int p0), some (.int p1)] [.int v112] (mjTo Z) _
              simp only [Option.some.injEq] at h
              subst h
              exact pG_ret (r := some (.int v112)) rfl ⟨rfl, rfl⟩
          · rw [if_neg hc110] at h
            refine pG_cmf (t := 29) rfl rfl hc110 ?_
            refine pG_many 1 (pc1 := 28) (L1 := [some (.ref 0), some (.int p0), some (.int p1)]) (st1 := [.int ((-1))]) (M1 := mjTo Z) (fun _ _ => rfl) ?_
            simp only [Option.some.injEq] at h
            subst h
            exact pG_ret (r := some (.int ((-1)))) rfl ⟨rfl, rfl⟩
def f168_leg (p0 : Int32) (p1 : Int32) (p2 : Int32) (Z : mjZt) : Option Int32 :=
  if mjIs Z.2.2.1 211 2 = true then
  mjBp (f19_hasLeg Z.2.2.1 p0 p1 Z) fun v103 =>
  if mjCmp .ne v103 0 = true then
    mjBp (f8_runner Z.2.2.1 p0 Z) fun v107 =>
    if (p2).toInt < 0 ∨ 4 < (p2).toInt then
      some ((-1))
    else if ((p2).toInt - 0).toNat = 0 then
      if mjIs v107 211 7 = true then
      mjBp (f108_tenthsOf v107 p1 Z) fun v113 =>
      some v113
      else none
    else if ((p2).toInt - 0).toNat = 1 then
      if mjIs v107 211 7 = true then
      mjBp (f34_endOf v107 p1 Z) fun v118 =>
      some v118
      else none
    else if ((p2).toInt - 0).toNat = 2 then
      if mjIs v107 211 7 = true then
      mjBp (f32_metresOf v107 p1 Z) fun v123 =>
      some v123
      else none
    else if ((p2).toInt - 0).toNat = 3 then
      mjBp (f40_runInBox Z.2.2.1 v107 p1 (p1 - 1) Z) fun v127 =>
      some v127
    else if ((p2).toInt - 0).toNat = 4 then
      mjBp (f40_runInBox Z.2.2.1 v107 p1 p1 Z) fun v131 =>
      some v131
    else none
  else
    some ((-1))
  else none
theorem f168_leg_ok {p0 : Int32} {p1 : Int32} {p2 : Int32} {Z : mjZt} {v9 : Int32} (h : f168_leg p0 p1 p2 Z = some v9) : pG 147 0 (mjEnt [.ref 0, .int p0, .int p1, .int p2] (mjML 147)) [] (mjTo Z) (fun r M1 => r = some (.int v9) ∧ M1 = mjTo Z) := by
  unfold f168_leg at h
  show pG 147 0 [some (.ref 0), some (.int p0), some (.int p1), some (.int p2), none] [] (mjTo Z) _
  refine pG_many 1 (pc1 := 1) (L1 := [some (.ref 0), some (.int p0), some (.int p1), some (.int p2), none]) (st1 := [.ref 0]) (M1 := mjTo Z) (fun _ _ => rfl) ?_
  refine pG_getR (ci := 11) (f := 2) (b := Z.2.2.1) rfl rfl rfl (by rfl) (by decide) rfl ?_
  refine pG_many 2 (pc1 := 6) (L1 := [some (.ref 0), some (.int p0), some (.int p1), some (.int p2), none]) (st1 := [.int p1, .int p0, .ref Z.2.2.1]) (M1 := mjTo Z) (fun _ _ => rfl) ?_
  have hk101 : mjIs Z.2.2.1 211 2 = true := by
    by_cases q9 : mjIs Z.2.2.1 211 2 = true
    · exact q9
    · rw [if_neg q9] at h; cases h
  rw [if_pos hk101] at h
  cases hq102 : f19_hasLeg Z.2.2.1 p0 p1 Z with
  | none => rw [hq102] at h; cases h
  | some v103 =>
    rw [hq102, mjBp_some] at h
    refine pG_callV (k2 := 19) (As := [.ref Z.2.2.1, .int p0, .int p1]) (rest := []) rfl rfl rfl rfl rfl (mjRcv_is hk101 (by decide)) (by decide) (by decide) (f19_hasLeg_ok hq102) ?_
    rintro r9 M9 ⟨rfl, rfl⟩
    show pG 147 9 [some (.ref 0), some (.int p0), some (.int p1), some (.int p2), none] [.int v103] (mjTo Z) _
    by_cases hc105 : mjCmp .ne v103 0 = true
    · rw [if_pos hc105] at h
      refine pG_ift (t := 14) rfl rfl hc105 ?_
      refine pG_many 1 (pc1 := 15) (L1 := [some (.ref 0), some (.int p0), some (.int p1), some (.int p2), none]) (st1 := [.ref 0]) (M1 := mjTo Z) (fun _ _ => rfl) ?_
      refine pG_getR (ci := 11) (f := 2) (b := Z.2.2.1) rfl rfl rfl (by rfl) (by decide) rfl ?_
      refine pG_many 1 (pc1 := 19) (L1 := [some (.ref 0), some (.int p0), some (.int p1), some (.int p2), none]) (st1 := [.int p0, .ref Z.2.2.1]) (M1 := mjTo Z) (fun _ _ => rfl) ?_
      cases hq106 : f8_runner Z.2.2.1 p0 Z with
      | none => rw [hq106] at h; cases h
      | some v107 =>
        rw [hq106, mjBp_some] at h
        refine pG_callV (k2 := 8) (As := [.ref Z.2.2.1, .int p0]) (rest := []) rfl rfl rfl rfl rfl (mjRcv_is hk101 (by decide)) (by decide) (by decide) (f8_runner_ok hq106) ?_
        rintro r9 M9 ⟨rfl, rfl⟩
        show pG 147 22 [some (.ref 0), some (.int p0), some (.int p1), some (.int p2), none] [.ref v107] (mjTo Z) _
        refine pG_many 2 (pc1 := 25) (L1 := [some (.ref 0), some (.int p0), some (.int p1), some (.int p2), some (.ref v107)]) (st1 := [.int p2]) (M1 := mjTo Z) (fun _ _ => rfl) ?_
        by_cases hs109 : (p2).toInt < 0 ∨ 4 < (p2).toInt
        · rw [if_pos hs109] at h
          refine pG_tso (t := 107) rfl hs109 rfl ?_
          refine pG_many 1 (pc1 := 108) (L1 := [some (.ref 0), some (.int p0), some (.int p1), some (.int p2), some (.ref v107)]) (st1 := [.int ((-1))]) (M1 := mjTo Z) (fun _ _ => rfl) ?_
          simp only [Option.some.injEq] at h
          subst h
          exact pG_ret (r := some (.int ((-1)))) rfl ⟨rfl, rfl⟩
        rw [if_neg hs109] at h
        by_cases hs110 : ((p2).toInt - 0).toNat = 0
        · rw [if_pos hs110] at h
          refine pG_tsi (t := 60) (j := 0) (o := 35) rfl hs109 hs110 rfl rfl ?_
          refine pG_many 2 (pc1 := 63) (L1 := [some (.ref 0), some (.int p0), some (.int p1), some (.int p2), some (.ref v107)]) (st1 := [.int p1, .ref v107]) (M1 := mjTo Z) (fun _ _ => rfl) ?_
          have hk111 : mjIs v107 211 7 = true := by
            by_cases q9 : mjIs v107 211 7 = true
            · exact q9
            · rw [if_neg q9] at h; cases h
          rw [if_pos hk111] at h
          cases hq112 : f108_tenthsOf v107 p1 Z with
          | none => rw [hq112] at h; cases h
          | some v113 =>
            rw [hq112, mjBp_some] at h
            refine pG_callV (k2 := 100) (As := [.ref v107, .int p1]) (rest := []) rfl rfl rfl rfl rfl (mjRcv_is hk111 (by decide)) (by decide) (by decide) (f108_tenthsOf_ok hq112) ?_
            rintro r9 M9 ⟨rfl, rfl⟩
            show pG 147 66 [some (.ref 0), some (.int p0), some (.int p1), some (.int p2), some (.ref v107)] [.int v113] (mjTo Z) _
            simp only [Option.some.injEq] at h
            subst h
            exact pG_ret (r := some (.int v113)) rfl ⟨rfl, rfl⟩
        rw [if_neg hs110] at h
        by_cases hs115 : ((p2).toInt - 0).toNat = 1
        · rw [if_pos hs115] at h
          refine pG_tsi (t := 67) (j := 1) (o := 42) rfl hs109 hs115 rfl rfl ?_
          refine pG_many 2 (pc1 := 70) (L1 := [some (.ref 0), some (.int p0), some (.int p1), some (.int p2), some (.ref v107)]) (st1 := [.int p1, .ref v107]) (M1 := mjTo Z) (fun _ _ => rfl) ?_
          have hk116 : mjIs v107 211 7 = true := by
            by_cases q9 : mjIs v107 211 7 = true
            · exact q9
            · rw [if_neg q9] at h; cases h
          rw [if_pos hk116] at h
          cases hq117 : f34_endOf v107 p1 Z with
          | none => rw [hq117] at h; cases h
          | some v118 =>
            rw [hq117, mjBp_some] at h
            refine pG_callV (k2 := 34) (As := [.ref v107, .int p1]) (rest := []) rfl rfl rfl rfl rfl (mjRcv_is hk116 (by decide)) (by decide) (by decide) (f34_endOf_ok hq117) ?_
            rintro r9 M9 ⟨rfl, rfl⟩
            show pG 147 73 [some (.ref 0), some (.int p0), some (.int p1), some (.int p2), some (.ref v107)] [.int v118] (mjTo Z) _
            simp only [Option.some.injEq] at h
            subst h
            exact pG_ret (r := some (.int v118)) rfl ⟨rfl, rfl⟩
        rw [if_neg hs115] at h
        by_cases hs120 : ((p2).toInt - 0).toNat = 2
        · rw [if_pos hs120] at h
          refine pG_tsi (t := 74) (j := 2) (o := 49) rfl hs109 hs120 rfl rfl ?_
          refine pG_many 2 (pc1 := 77) (L1 := [some (.ref 0), some (.int p0), some (.int p1), some (.int p2), some (.ref v107)]) (st1 := [.int p1, .ref v107]) (M1 := mjTo Z) (fun _ _ => rfl) ?_
          have hk121 : mjIs v107 211 7 = true := by
            by_cases q9 : mjIs v107 211 7 = true
            · exact q9
            · rw [if_neg q9] at h; cases h
          rw [if_pos hk121] at h
          cases hq122 : f32_metresOf v107 p1 Z with
          | none => rw [hq122] at h; cases h
          | some v123 =>
            rw [hq122, mjBp_some] at h
            refine pG_callV (k2 := 32) (As := [.ref v107, .int p1]) (rest := []) rfl rfl rfl rfl rfl (mjRcv_is hk121 (by decide)) (by decide) (by decide) (f32_metresOf_ok hq122) ?_
            rintro r9 M9 ⟨rfl, rfl⟩
            show pG 147 80 [some (.ref 0), some (.int p0), some (.int p1), some (.int p2), some (.ref v107)] [.int v123] (mjTo Z) _
            simp only [Option.some.injEq] at h
            subst h
            exact pG_ret (r := some (.int v123)) rfl ⟨rfl, rfl⟩
        rw [if_neg hs120] at h
        by_cases hs125 : ((p2).toInt - 0).toNat = 3
        · rw [if_pos hs125] at h
          refine pG_tsi (t := 81) (j := 3) (o := 56) rfl hs109 hs125 rfl rfl ?_
          refine pG_many 1 (pc1 := 82) (L1 := [some (.ref 0), some (.int p0), some (.int p1), some (.int p2), some (.ref v107)]) (st1 := [.ref 0]) (M1 := mjTo Z) (fun _ _ => rfl) ?_
          refine pG_getR (ci := 11) (f := 2) (b := Z.2.2.1) rfl rfl rfl (by rfl) (by decide) rfl ?_
          refine pG_many 5 (pc1 := 91) (L1 := [some (.ref 0), some (.int p0), some (.int p1), some (.int p2), some (.ref v107)]) (st1 := [.int (p1 - 1), .int p1, .ref v107, .ref Z.2.2.1]) (M1 := mjTo Z) (fun _ _ => rfl) ?_
          cases hq126 : f40_runInBox Z.2.2.1 v107 p1 (p1 - 1) Z with
          | none => rw [hq126] at h; cases h
          | some v127 =>
            rw [hq126, mjBp_some] at h
            refine pG_callV (k2 := 40) (As := [.ref Z.2.2.1, .ref v107, .int p1, .int (p1 - 1)]) (rest := []) rfl rfl rfl rfl rfl (mjRcv_is hk101 (by decide)) (by decide) (by decide) (f40_runInBox_ok hq126) ?_
            rintro r9 M9 ⟨rfl, rfl⟩
            show pG 147 94 [some (.ref 0), some (.int p0), some (.int p1), some (.int p2), some (.ref v107)] [.int v127] (mjTo Z) _
            simp only [Option.some.injEq] at h
            subst h
            exact pG_ret (r := some (.int v127)) rfl ⟨rfl, rfl⟩
        rw [if_neg hs125] at h
        by_cases hs129 : ((p2).toInt - 0).toNat = 4
        · rw [if_pos hs129] at h
          refine pG_tsi (t := 95) (j := 4) (o := 70) rfl hs109 hs129 rfl rfl ?_
          refine pG_many 1 (pc1 := 96) (L1 := [some (.ref 0), some (.int p0), some (.int p1), some (.int p2), some (.ref v107)]) (st1 := [.ref 0]) (M1 := mjTo Z) (fun _ _ => rfl) ?_
          refine pG_getR (ci := 11) (f := 2) (b := Z.2.2.1) rfl rfl rfl (by rfl) (by decide) rfl ?_
          refine pG_many 3 (pc1 := 103) (L1 := [some (.ref 0), some (.int p0), some (.int p1), some (.int p2), some (.ref v107)]) (st1 := [.int p1, .int p1, .ref v107, .ref Z.2.2.1]) (M1 := mjTo Z) (fun _ _ => rfl) ?_
          cases hq130 : f40_runInBox Z.2.2.1 v107 p1 p1 Z with
          | none => rw [hq130] at h; cases h
          | some v131 =>
            rw [hq130, mjBp_some] at h
            refine pG_callV (k2 := 40) (As := [.ref Z.2.2.1, .ref v107, .int p1, .int p1]) (rest := []) rfl rfl rfl rfl rfl (mjRcv_is hk101 (by decide)) (by decide) (by decide) (f40_runInBox_ok hq130) ?_
            rintro r9 M9 ⟨rfl, rfl⟩
            show pG 147 106 [some (.ref 0), some (.int p0), some (.int p1), some (.int p2), some (.ref v107)] [.int v131] (mjTo Z) _
            simp only [Option.some.injEq] at h
            subst h
            exact pG_ret (r := some (.int v131)) rfl ⟨rfl, rfl⟩
        rw [if_neg hs129] at h
        cases h
    · rw [if_neg hc105] at h
      refine pG_iff (t := 14) rfl rfl hc105 ?_
      refine pG_many 1 (pc1 := 13) (L1 := [some (.ref 0), some (.int p0), some (.int p1), some (.int p2), none]) (st1 := [.int ((-1))]) (M1 := mjTo Z) (fun _ _ => rfl) ?_
      simp only [Option.some.injEq] at h
      subst h
      exact pG_ret (r := some (.int ((-1)))) rfl ⟨rfl, rfl⟩
