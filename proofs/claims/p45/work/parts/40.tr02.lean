def f41_earlier_j58 (R : Nat → Int32 → Int32 → Nat → Int64 → Int32 → mjZt → Option Int64) (x0 : Nat) (x1 : Int32) (x2 : Int32) (x3 : Nat) (x4 : Int64) (x6 : Int32) (x7 : Nat) (s0 : Int32) (Z : mjZt) : Option Int64 :=
  if mjCmp .eq x6 x1 = true then
    R x0 x1 x2 x3 x4 (x6 + 1) Z
  else
    if mjCmp .eq s0 0 = true then
      R x0 x1 x2 x3 x4 (x6 + 1) Z
    else
      if mjIs x7 211 0 = true then
      if mjIs x3 211 0 = true then
      if mjCmp .ne (Z.1 x7 0) (Z.1 x3 0) = true then
        R x0 x1 x2 x3 x4 (x6 + 1) Z
      else
        if mjCmp .ne (Z.1 x7 1) (Z.1 x3 1) = true then
          R x0 x1 x2 x3 x4 (x6 + 1) Z
        else
          R x0 x1 x2 x3 (x4 ||| (1 <<< (Int32.toInt64 x6 &&& 63))) (x6 + 1) Z
      else none
      else none
theorem f41_earlier_j58_ok (R : Nat → Int32 → Int32 → Nat → Int64 → Int32 → mjZt → Option Int64) (hR : ∀ (x0 : Nat) (x1 : Int32) (x2 : Int32) (x3 : Nat) (x4 : Int64) (x6 : Int32) (d5 d7 d8 : Option Value) (Z : mjZt) (v9 : Int64), R x0 x1 x2 x3 x4 x6 Z = some v9 → pG 41 12 [some (.ref x0), some (.int x1), some (.int x2), some (.ref x3), some (.long x4), d5, some (.int x6), d7, d8] [] (mjTo Z) (fun r M1 => r = some (.long v9) ∧ M1 = mjTo Z)) (x0 : Nat) (x1 : Int32) (x2 : Int32) (x3 : Nat) (x4 : Int64) (x6 : Int32) (x7 : Nat) (s0 : Int32) (d5 d8 : Option Value) (Z : mjZt) (v9 : Int64) (h : f41_earlier_j58 R x0 x1 x2 x3 x4 x6 x7 s0 Z = some v9) : pG 41 58 [some (.ref x0), some (.int x1), some (.int x2), some (.ref x3), some (.long x4), d5, some (.int x6), some (.ref x7), d8] [.int s0] (mjTo Z) (fun r M1 => r = some (.long v9) ∧ M1 = mjTo Z) := by
  unfold f41_earlier_j58 at h
  refine pG_many 3 (pc1 := 63) (L1 := [some (.ref x0), some (.int x1), some (.int x2), some (.ref x3), some (.long x4), d5, some (.int x6), some (.ref x7), some (.int s0)]) (st1 := [.int x1, .int x6]) (M1 := mjTo Z) (fun _ _ => rfl) ?_
  by_cases hc112 : mjCmp .eq x6 x1 = true
  · rw [if_pos hc112] at h
    refine pG_cmt (t := 104) rfl rfl hc112 ?_
    refine pG_many 2 (pc1 := 12) (L1 := [some (.ref x0), some (.int x1), some (.int x2), some (.ref x3), some (.long x4), (mjK1 d5), some (.int (x6 + 1)), some (.ref x7), some (.int s0)]) (st1 := []) (M1 := mjTo Z) (fun _ _ => rfl) ?_
    exact hR x0 x1 x2 x3 x4 (x6 + 1) ((mjK1 d5)) (some (.ref x7)) (some (.int s0)) Z v9 h
  · rw [if_neg hc112] at h
    refine pG_cmf (t := 104) rfl rfl hc112 ?_
    refine pG_many 1 (pc1 := 68) (L1 := [some (.ref x0), some (.int x1), some (.int x2), some (.ref x3), some (.long x4), d5, some (.int x6), some (.ref x7), some (.int s0)]) (st1 := [.int s0]) (M1 := mjTo Z) (fun _ _ => rfl) ?_
    by_cases hc113 : mjCmp .eq s0 0 = true
    · rw [if_pos hc113] at h
      refine pG_ift (t := 104) rfl rfl hc113 ?_
      refine pG_many 2 (pc1 := 12) (L1 := [some (.ref x0), some (.int x1), some (.int x2), some (.ref x3), some (.long x4), (mjK1 d5), some (.int (x6 + 1)), some (.ref x7), some (.int s0)]) (st1 := []) (M1 := mjTo Z) (fun _ _ => rfl) ?_
      exact hR x0 x1 x2 x3 x4 (x6 + 1) ((mjK1 d5)) (some (.ref x7)) (some (.int s0)) Z v9 h
    · rw [if_neg hc113] at h
      refine pG_iff (t := 104) rfl rfl hc113 ?_
      refine pG_many 1 (pc1 := 73) (L1 := [some (.ref x0), some (.int x1), some (.int x2), some (.ref x3), some (.long x4), d5, some (.int x6), some (.ref x7), some (.int s0)]) (st1 := [.ref x7]) (M1 := mjTo Z) (fun _ _ => rfl) ?_
      have hk114 : mjIs x7 211 0 = true := by
        by_cases q9 : mjIs x7 211 0 = true
        · exact q9
        · rw [if_neg q9] at h; cases h
      rw [if_pos hk114] at h
      refine pG_getI (ci := 0) (f := 0) rfl rfl (Or.inl rfl) hk114 (by decide) ?_
      refine pG_many 1 (pc1 := 77) (L1 := [some (.ref x0), some (.int x1), some (.int x2), some (.ref x3), some (.long x4), d5, some (.int x6), some (.ref x7), some (.int s0)]) (st1 := [.ref x3, .int (Z.1 x7 0)]) (M1 := mjTo Z) (fun _ _ => rfl) ?_
      have hk115 : mjIs x3 211 0 = true := by
        by_cases q9 : mjIs x3 211 0 = true
        · exact q9
        · rw [if_neg q9] at h; cases h
      rw [if_pos hk115] at h
      refine pG_getI (ci := 0) (f := 0) rfl rfl (Or.inl rfl) hk115 (by decide) ?_
      by_cases hc116 : mjCmp .ne (Z.1 x7 0) (Z.1 x3 0) = true
      · rw [if_pos hc116] at h
        refine pG_cmt (t := 104) rfl rfl hc116 ?_
        refine pG_many 2 (pc1 := 12) (L1 := [some (.ref x0), some (.int x1), some (.int x2), some (.ref x3), some (.long x4), (mjK1 d5), some (.int (x6 + 1)), some (.ref x7), some (.int s0)]) (st1 := []) (M1 := mjTo Z) (fun _ _ => rfl) ?_
        exact hR x0 x1 x2 x3 x4 (x6 + 1) ((mjK1 d5)) (some (.ref x7)) (some (.int s0)) Z v9 h
      · rw [if_neg hc116] at h
        refine pG_cmf (t := 104) rfl rfl hc116 ?_
        refine pG_many 1 (pc1 := 85) (L1 := [some (.ref x0), some (.int x1), some (.int x2), some (.ref x3), some (.long x4), d5, some (.int x6), some (.ref x7), some (.int s0)]) (st1 := [.ref x7]) (M1 := mjTo Z) (fun _ _ => rfl) ?_
        refine pG_getI (ci := 0) (f := 1) rfl rfl (Or.inl rfl) hk114 (by decide) ?_
        refine pG_many 1 (pc1 := 89) (L1 := [some (.ref x0), some (.int x1), some (.int x2), some (.ref x3), some (.long x4), d5, some (.int x6), some (.ref x7), some (.int s0)]) (st1 := [.ref x3, .int (Z.1 x7 1)]) (M1 := mjTo Z) (fun _ _ => rfl) ?_
        refine pG_getI (ci := 0) (f := 1) rfl rfl (Or.inl rfl) hk115 (by decide) ?_
        by_cases hc117 : mjCmp .ne (Z.1 x7 1) (Z.1 x3 1) = true
        · rw [if_pos hc117] at h
          refine pG_cmt (t := 104) rfl rfl hc117 ?_
          refine pG_many 2 (pc1 := 12) (L1 := [some (.ref x0), some (.int x1), some (.int x2), some (.ref x3), some (.long x4), (mjK1 d5), some (.int (x6 + 1)), some (.ref x7), some (.int s0)]) (st1 := []) (M1 := mjTo Z) (fun _ _ => rfl) ?_
          exact hR x0 x1 x2 x3 x4 (x6 + 1) ((mjK1 d5)) (some (.ref x7)) (some (.int s0)) Z v9 h
        · rw [if_neg hc117] at h
          refine pG_cmf (t := 104) rfl rfl hc117 ?_
          refine pG_many 8 (pc1 := 12) (L1 := [some (.ref x0), some (.int x1), some (.int x2), some (.ref x3), some (.long (x4 ||| (1 <<< (Int32.toInt64 x6 &&& 63)))), none, some (.int (x6 + 1)), some (.ref x7), some (.int s0)]) (st1 := []) (M1 := mjTo Z) (fun _ _ => rfl) ?_
          exact hR x0 x1 x2 x3 (x4 ||| (1 <<< (Int32.toInt64 x6 &&& 63))) (x6 + 1) none (some (.ref x7)) (some (.int s0)) Z v9 h
def f41_earlier_j53 (R : Nat → Int32 → Int32 → Nat → Int64 → Int32 → mjZt → Option Int64) (x0 : Nat) (x1 : Int32) (x2 : Int32) (x3 : Nat) (x4 : Int64) (x6 : Int32) (x7 : Nat) (Z : mjZt) : Option Int64 :=
  f41_earlier_j58 R x0 x1 x2 x3 x4 x6 x7 1 Z
theorem f41_earlier_j53_ok (R : Nat → Int32 → Int32 → Nat → Int64 → Int32 → mjZt → Option Int64) (hR : ∀ (x0 : Nat) (x1 : Int32) (x2 : Int32) (x3 : Nat) (x4 : Int64) (x6 : Int32) (d5 d7 d8 : Option Value) (Z : mjZt) (v9 : Int64), R x0 x1 x2 x3 x4 x6 Z = some v9 → pG 41 12 [some (.ref x0), some (.int x1), some (.int x2), some (.ref x3), some (.long x4), d5, some (.int x6), d7, d8] [] (mjTo Z) (fun r M1 => r = some (.long v9) ∧ M1 = mjTo Z)) (x0 : Nat) (x1 : Int32) (x2 : Int32) (x3 : Nat) (x4 : Int64) (x6 : Int32) (x7 : Nat) (d5 d8 : Option Value) (Z : mjZt) (v9 : Int64) (h : f41_earlier_j53 R x0 x1 x2 x3 x4 x6 x7 Z = some v9) : pG 41 53 [some (.ref x0), some (.int x1), some (.int x2), some (.ref x3), some (.long x4), d5, some (.int x6), some (.ref x7), d8] [] (mjTo Z) (fun r M1 => r = some (.long v9) ∧ M1 = mjTo Z) := by
  unfold f41_earlier_j53 at h
  refine pG_many 2 (pc1 := 58) (L1 := [some (.ref x0), some (.int x1), some (.int x2), some (.ref x3), some (.long x4), d5, some (.int x6), some (.ref x7), d8]) (st1 := [.int 1]) (M1 := mjTo Z) (fun _ _ => rfl) ?_
  exact f41_earlier_j58_ok R hR x0 x1 x2 x3 x4 x6 x7 1 d5 d8 Z v9 h
def f41_earlier_j57 (R : Nat → Int32 → Int32 → Nat → Int64 → Int32 → mjZt → Option Int64) (x0 : Nat) (x1 : Int32) (x2 : Int32) (x3 : Nat) (x4 : Int64) (x6 : Int32) (x7 : Nat) (Z : mjZt) : Option Int64 :=
  f41_earlier_j58 R x0 x1 x2 x3 x4 x6 x7 0 Z
theorem f41_earlier_j57_ok (R : Nat → Int32 → Int32 → Nat → Int64 → Int32 → mjZt → Option Int64) (hR : ∀ (x0 : Nat) (x1 : Int32) (x2 : Int32) (x3 : Nat) (x4 : Int64) (x6 : Int32) (d5 d7 d8 : Option Value) (Z : mjZt) (v9 : Int64), R x0 x1 x2 x3 x4 x6 Z = some v9 → pG 41 12 [some (.ref x0), some (.int x1), some (.int x2), some (.ref x3), some (.long x4), d5, some (.int x6), d7, d8] [] (mjTo Z) (fun r M1 => r = some (.long v9) ∧ M1 = mjTo Z)) (x0 : Nat) (x1 : Int32) (x2 : Int32) (x3 : Nat) (x4 : Int64) (x6 : Int32) (x7 : Nat) (d5 d8 : Option Value) (Z : mjZt) (v9 : Int64) (h : f41_earlier_j57 R x0 x1 x2 x3 x4 x6 x7 Z = some v9) : pG 41 57 [some (.ref x0), some (.int x1), some (.int x2), some (.ref x3), some (.long x4), d5, some (.int x6), some (.ref x7), d8] [] (mjTo Z) (fun r M1 => r = some (.long v9) ∧ M1 = mjTo Z) := by
  unfold f41_earlier_j57 at h
  refine pG_many 1 (pc1 := 58) (L1 := [some (.ref x0), some (.int x1), some (.int x2), some (.ref x3), some (.long x4), d5, some (.int x6), some (.ref x7), d8]) (st1 := [.int 0]) (M1 := mjTo Z) (fun _ _ => rfl) ?_
  exact f41_earlier_j58_ok R hR x0 x1 x2 x3 x4 x6 x7 0 d5 d8 Z v9 h
def f41_earlier_h12 : Nat → Nat → Int32 → Int32 → Nat → Int64 → Int32 → mjZt → Option Int64
  | 0, _, _, _, _, _, _, _ => none
  | n + 1, x0, x1, x2, x3, x4, x6, Z =>
    if mjIs x0 211 2 = true then
    if mjCmp .ge x6 (Z.1 x0 7) = true then
      some x4
    else
      mjBp (f6_deed x0 x6 Z) fun v108 =>
      if mjIs v108 211 0 = true then
      if mjCmp .lt (Z.1 v108 3) x2 = true then
        f41_earlier_j53 (f41_earlier_h12 n) x0 x1 x2 x3 x4 x6 v108 Z
      else
        if mjCmp .ne (Z.1 v108 3) x2 = true then
          f41_earlier_j57 (f41_earlier_h12 n) x0 x1 x2 x3 x4 x6 v108 Z
        else
          if mjCmp .ge x6 x1 = true then
            f41_earlier_j57 (f41_earlier_h12 n) x0 x1 x2 x3 x4 x6 v108 Z
          else
            f41_earlier_j53 (f41_earlier_h12 n) x0 x1 x2 x3 x4 x6 v108 Z
      else none
    else none
theorem f41_earlier_h12_ok : ∀ (n : Nat) (x0 : Nat) (x1 : Int32) (x2 : Int32) (x3 : Nat) (x4 : Int64) (x6 : Int32) (d5 d7 d8 : Option Value) (Z : mjZt) (v9 : Int64), f41_earlier_h12 n x0 x1 x2 x3 x4 x6 Z = some v9 → pG 41 12 [some (.ref x0), some (.int x1), some (.int x2), some (.ref x3), some (.long x4), d5, some (.int x6), d7, d8] [] (mjTo Z) (fun r M1 => r = some (.long v9) ∧ M1 = mjTo Z)
  | 0, x0, x1, x2, x3, x4, x6, d5, d7, d8, Z, v9, h => by rw [f41_earlier_h12] at h; cases h
  | n + 1, x0, x1, x2, x3, x4, x6, d5, d7, d8, Z, v9, h => by
      rw [f41_earlier_h12] at h
      refine pG_many 2 (pc1 := 15) (L1 := [some (.ref x0), some (.int x1), some (.int x2), some (.ref x3), some (.long x4), d5, some (.int x6), d7, d8]) (st1 := [.ref x0, .int x6]) (M1 := mjTo Z) (fun _ _ => rfl) ?_
      have hk105 : mjIs x0 211 2 = true := by
        by_cases q9 : mjIs x0 211 2 = true
        · exact q9
        · rw [if_neg q9] at h; cases h
      rw [if_pos hk105] at h
      refine pG_getI (ci := 2) (f := 7) rfl rfl (Or.inl rfl) hk105 (by decide) ?_
      by_cases hc106 : mjCmp .ge x6 (Z.1 x0 7) = true
      · rw [if_pos hc106] at h
        refine pG_cmt (t := 110) rfl rfl hc106 ?_
        refine pG_many 1 (pc1 := 112) (L1 := [some (.ref x0), some (.int x1), some (.int x2), some (.ref x3), some (.long x4), d5, some (.int x6), d7, d8]) (st1 := [.long x4]) (M1 := mjTo Z) (fun _ _ => rfl) ?_
        simp only [Option.some.injEq] at h
        subst h
        exact pG_ret (r := some (.long x4)) rfl ⟨rfl, rfl⟩
      · rw [if_neg hc106] at h
        refine pG_cmf (t := 110) rfl rfl hc106 ?_
        refine pG_many 2 (pc1 := 24) (L1 := [some (.ref x0), some (.int x1), some (.int x2), some (.ref x3), some (.long x4), d5, some (.int x6), d7, d8]) (st1 := [.int x6, .ref x0]) (M1 := mjTo Z) (fun _ _ => rfl) ?_
        cases hq107 : f6_deed x0 x6 Z with
        | none => rw [hq107] at h; cases h
        | some v108 =>
          rw [hq107, mjBp_some] at h
          refine pG_callV (k2 := 6) (As := [.ref x0, .int x6]) (rest := []) rfl rfl rfl rfl rfl (mjRcv_is hk105 (by decide)) (by decide) (by decide) (f6_deed_ok hq107) ?_
          rintro r9 M9 ⟨rfl, rfl⟩
          show pG 41 27 [some (.ref x0), some (.int x1), some (.int x2), some (.ref x3), some (.long x4), d5, some (.int x6), d7, d8] [.ref v108] (mjTo Z) _
          refine pG_many 2 (pc1 := 31) (L1 := [some (.ref x0), some (.int x1), some (.int x2), some (.ref x3), some (.long x4), d5, some (.int x6), some (.ref v108), d8]) (st1 := [.ref v108]) (M1 := mjTo Z) (fun _ _ => rfl) ?_
          have hk110 : mjIs v108 211 0 = true := by
            by_cases q9 : mjIs v108 211 0 = true
            · exact q9
            · rw [if_neg q9] at h; cases h
          rw [if_pos hk110] at h
          refine pG_getI (ci := 0) (f := 3) rfl rfl (Or.inl rfl) hk110 (by decide) ?_
          refine pG_many 1 (pc1 := 35) (L1 := [some (.ref x0), some (.int x1), some (.int x2), some (.ref x3), some (.long x4), d5, some (.int x6), some (.ref v108), d8]) (st1 := [.int x2, .int (Z.1 v108 3)]) (M1 := mjTo Z) (fun _ _ => rfl) ?_
          by_cases hc111 : mjCmp .lt (Z.1 v108 3) x2 = true
          · rw [if_pos hc111] at h
            refine pG_cmt (t := 53) rfl rfl hc111 ?_
            exact f41_earlier_j53_ok (f41_earlier_h12 n) (fun x0 x1 x2 x3 x4 x6 d5 d7 d8 Z v9 h => f41_earlier_h12_ok n x0 x1 x2 x3 x4 x6 d5 d7 d8 Z v9 h) x0 x1 x2 x3 x4 x6 v108 d5 d8 Z v9 h
          · rw [if_neg hc111] at h
            refine pG_cmf (t := 53) rfl rfl hc111 ?_
            refine pG_many 1 (pc1 := 40) (L1 := [some (.ref x0), some (.int x1), some (.int x2), some (.ref x3), some (.long x4), d5, some (.int x6), some (.ref v108), d8]) (st1 := [.ref v108]) (M1 := mjTo Z) (fun _ _ => rfl) ?_
            refine pG_getI (ci := 0) (f := 3) rfl rfl (Or.inl rfl) hk110 (by decide) ?_
            refine pG_many 1 (pc1 := 44) (L1 := [some (.ref x0), some (.int x1), some (.int x2), some (.ref x3), some (.long x4), d5, some (.int x6), some (.ref v108), d8]) (st1 := [.int x2, .int (Z.1 v108 3)]) (M1 := mjTo Z) (fun _ _ => rfl) ?_
            by_cases hc118 : mjCmp .ne (Z.1 v108 3) x2 = true
            · rw [if_pos hc118] at h
              refine pG_cmt (t := 57) rfl rfl hc118 ?_
              exact f41_earlier_j57_ok (f41_earlier_h12 n) (fun x0 x1 x2 x3 x4 x6 d5 d7 d8 Z v9 h => f41_earlier_h12_ok n x0 x1 x2 x3 x4 x6 d5 d7 d8 Z v9 h) x0 x1 x2 x3 x4 x6 v108 d5 d8 Z v9 h
            · rw [if_neg hc118] at h
              refine pG_cmf (t := 57) rfl rfl hc118 ?_
              refine pG_many 2 (pc1 := 50) (L1 := [some (.ref x0), some (.int x1), some (.int x2), some (.ref x3), some (.long x4), d5, some (.int x6), some (.ref v108), d8]) (st1 := [.int x1, .int x6]) (M1 := mjTo Z) (fun _ _ => rfl) ?_
              by_cases hc119 : mjCmp .ge x6 x1 = true
              · rw [if_pos hc119] at h
                refine pG_cmt (t := 57) rfl rfl hc119 ?_
                exact f41_earlier_j57_ok (f41_earlier_h12 n) (fun x0 x1 x2 x3 x4 x6 d5 d7 d8 Z v9 h => f41_earlier_h12_ok n x0 x1 x2 x3 x4 x6 d5 d7 d8 Z v9 h) x0 x1 x2 x3 x4 x6 v108 d5 d8 Z v9 h
              · rw [if_neg hc119] at h
                refine pG_cmf (t := 57) rfl rfl hc119 ?_
                exact f41_earlier_j53_ok (f41_earlier_h12 n) (fun x0 x1 x2 x3 x4 x6 d5 d7 d8 Z v9 h => f41_earlier_h12_ok n x0 x1 x2 x3 x4 x6 d5 d7 d8 Z v9 h) x0 x1 x2 x3 x4 x6 v108 d5 d8 Z v9 h
def f41_earlier (a0 : Nat) (p0 : Int32) (p1 : Int32) (Z : mjZt) : Option Int64 :=
  if mjIs a0 211 2 = true then
  mjBp (f6_deed a0 p0 Z) fun v103 =>
  f41_earlier_h12 mjF a0 p0 p1 v103 0 0 Z
  else none
theorem f41_earlier_ok {a0 : Nat} {p0 : Int32} {p1 : Int32} {Z : mjZt} {v9 : Int64} (h : f41_earlier a0 p0 p1 Z = some v9) : pG 41 0 (mjEnt [.ref a0, .int p0, .int p1] (mjML 41)) [] (mjTo Z) (fun r M1 => r = some (.long v9) ∧ M1 = mjTo Z) := by
  unfold f41_earlier at h
  show pG 41 0 [some (.ref a0), some (.int p0), some (.int p1), none, none, none, none, none, none] [] (mjTo Z) _
  refine pG_many 2 (pc1 := 2) (L1 := [some (.ref a0), some (.int p0), some (.int p1), none, none, none, none, none, none]) (st1 := [.int p0, .ref a0]) (M1 := mjTo Z) (fun _ _ => rfl) ?_
  have hk101 : mjIs a0 211 2 = true := by
    by_cases q9 : mjIs a0 211 2 = true
    · exact q9
    · rw [if_neg q9] at h; cases h
  rw [if_pos hk101] at h
  cases hq102 : f6_deed a0 p0 Z with
  | none => rw [hq102] at h; cases h
  | some v103 =>
    rw [hq102, mjBp_some] at h
    refine pG_callV (k2 := 6) (As := [.ref a0, .int p0]) (rest := []) rfl rfl rfl rfl rfl (mjRcv_is hk101 (by decide)) (by decide) (by decide) (f6_deed_ok hq102) ?_
    rintro r9 M9 ⟨rfl, rfl⟩
    show pG 41 5 [some (.ref a0), some (.int p0), some (.int p1), none, none, none, none, none, none] [.ref v103] (mjTo Z) _
    refine pG_many 5 (pc1 := 12) (L1 := [some (.ref a0), some (.int p0), some (.int p1), some (.ref v103), some (.long 0), none, some (.int 0), none, none]) (st1 := []) (M1 := mjTo Z) (fun _ _ => rfl) ?_
    exact f41_earlier_h12_ok mjF a0 p0 p1 v103 0 0 none none none Z v9 h
def f42_forcers_j58 (R : Nat → Int32 → Int32 → Int64 → Int32 → mjZt → Option Int64) (x0 : Nat) (x2 : Int32) (x3 : Int32) (x4 : Int64) (x6 : Int32) (x7 : Nat) (s0 : Int32) (Z : mjZt) : Option Int64 :=
  if mjCmp .eq s0 0 = true then
    R x0 x2 x3 x4 (x6 + 1) Z
  else
    if mjIs x7 211 0 = true then
    if mjCmp .ne (Z.1 x7 0) 3 = true then
      R x0 x2 x3 x4 (x6 + 1) Z
    else
      if mjCmp .ne (Z.1 x7 2) x3 = true then
        R x0 x2 x3 x4 (x6 + 1) Z
      else
        R x0 x2 x3 (x4 ||| (1 <<< (Int32.toInt64 x6 &&& 63))) (x6 + 1) Z
    else none
theorem f42_forcers_j58_ok (R : Nat → Int32 → Int32 → Int64 → Int32 → mjZt → Option Int64) (hR : ∀ (x0 : Nat) (x2 : Int32) (x3 : Int32) (x4 : Int64) (x6 : Int32) (d1 d5 d7 d8 : Option Value) (Z : mjZt) (v9 : Int64), R x0 x2 x3 x4 x6 Z = some v9 → pG 42 15 [some (.ref x0), d1, some (.int x2), some (.int x3), some (.long x4), d5, some (.int x6), d7, d8] [] (mjTo Z) (fun r M1 => r = some (.long v9) ∧ M1 = mjTo Z)) (x0 : Nat) (x2 : Int32) (x3 : Int32) (x4 : Int64) (x6 : Int32) (x7 : Nat) (s0 : Int32) (d1 d5 d8 : Option Value) (Z : mjZt) (v9 : Int64) (h : f42_forcers_j58 R x0 x2 x3 x4 x6 x7 s0 Z = some v9) : pG 42 58 [some (.ref x0), d1, some (.int x2), some (.int x3), some (.long x4), d5, some (.int x6), some (.ref x7), d8] [.int s0] (mjTo Z) (fun r M1 => r = some (.long v9) ∧ M1 = mjTo Z) := by
  unfold f42_forcers_j58 at h
  refine pG_many 2 (pc1 := 62) (L1 := [some (.ref x0), d1, some (.int x2), some (.int x3), some (.long x4), d5, some (.int x6), some (.ref x7), some (.int s0)]) (st1 := [.int s0]) (M1 := mjTo Z) (fun _ _ => rfl) ?_
  by_cases hc113 : mjCmp .eq s0 0 = true
  · rw [if_pos hc113] at h
    refine pG_ift (t := 92) rfl rfl hc113 ?_
    refine pG_many 2 (pc1 := 15) (L1 := [some (.ref x0), d1, some (.int x2), some (.int x3), some (.long x4), (mjK1 d5), some (.int (x6 + 1)), some (.ref x7), some (.int s0)]) (st1 := []) (M1 := mjTo Z) (fun _ _ => rfl) ?_
    exact hR x0 x2 x3 x4 (x6 + 1) d1 ((mjK1 d5)) (some (.ref x7)) (some (.int s0)) Z v9 h
  · rw [if_neg hc113] at h
    refine pG_iff (t := 92) rfl rfl hc113 ?_
    refine pG_many 1 (pc1 := 67) (L1 := [some (.ref x0), d1, some (.int x2), some (.int x3), some (.long x4), d5, some (.int x6), some (.ref x7), some (.int s0)]) (st1 := [.ref x7]) (M1 := mjTo Z) (fun _ _ => rfl) ?_
    have hk114 : mjIs x7 211 0 = true := by
      by_cases q9 : mjIs x7 211 0 = true
      · exact q9
      · rw [if_neg q9] at h; cases h
    rw [if_pos hk114] at h
    refine pG_getI (ci := 0) (f := 0) rfl rfl (Or.inl rfl) hk114 (by decide) ?_
    refine pG_many 1 (pc1 := 71) (L1 := [some (.ref x0), d1, some (.int x2), some (.int x3), some (.long x4), d5, some (.int x6), some (.ref x7), some (.int s0)]) (st1 := [.int 3, .int (Z.1 x7 0)]) (M1 := mjTo Z) (fun _ _ => rfl) ?_
    by_cases hc115 : mjCmp .ne (Z.1 x7 0) 3 = true
    · rw [if_pos hc115] at h
      refine pG_cmt (t := 92) rfl rfl hc115 ?_
      refine pG_many 2 (pc1 := 15) (L1 := [some (.ref x0), d1, some (.int x2), some (.int x3), some (.long x4), (mjK1 d5), some (.int (x6 + 1)), some (.ref x7), some (.int s0)]) (st1 := []) (M1 := mjTo Z) (fun _ _ => rfl) ?_
      exact hR x0 x2 x3 x4 (x6 + 1) d1 ((mjK1 d5)) (some (.ref x7)) (some (.int s0)) Z v9 h
    · rw [if_neg hc115] at h
      refine pG_cmf (t := 92) rfl rfl hc115 ?_
      refine pG_many 1 (pc1 := 76) (L1 := [some (.ref x0), d1, some (.int x2), some (.int x3), some (.long x4), d5, some (.int x6), some (.ref x7), some (.int s0)]) (st1 := [.ref x7]) (M1 := mjTo Z) (fun _ _ => rfl) ?_
      refine pG_getI (ci := 0) (f := 2) rfl rfl (Or.inl rfl) hk114 (by decide) ?_
      refine pG_many 1 (pc1 := 80) (L1 := [some (.ref x0), d1, some (.int x2), some (.int x3), some (.long x4), d5, some (.int x6), some (.ref x7), some (.int s0)]) (st1 := [.int x3, .int (Z.1 x7 2)]) (M1 := mjTo Z) (fun _ _ => rfl) ?_
      by_cases hc116 : mjCmp .ne (Z.1 x7 2) x3 = true
      · rw [if_pos hc116] at h
        refine pG_cmt (t := 92) rfl rfl hc116 ?_
        refine pG_many 2 (pc1 := 15) (L1 := [some (.ref x0), d1, some (.int x2), some (.int x3), some (.long x4), (mjK1 d5), some (.int (x6 + 1)), some (.ref x7), some (.int s0)]) (st1 := []) (M1 := mjTo Z) (fun _ _ => rfl) ?_
        exact hR x0 x2 x3 x4 (x6 + 1) d1 ((mjK1 d5)) (some (.ref x7)) (some (.int s0)) Z v9 h
      · rw [if_neg hc116] at h
        refine pG_cmf (t := 92) rfl rfl hc116 ?_
        refine pG_many 8 (pc1 := 15) (L1 := [some (.ref x0), d1, some (.int x2), some (.int x3), some (.long (x4 ||| (1 <<< (Int32.toInt64 x6 &&& 63)))), none, some (.int (x6 + 1)), some (.ref x7), some (.int s0)]) (st1 := []) (M1 := mjTo Z) (fun _ _ => rfl) ?_
        exact hR x0 x2 x3 (x4 ||| (1 <<< (Int32.toInt64 x6 &&& 63))) (x6 + 1) d1 none (some (.ref x7)) (some (.int s0)) Z v9 h
def f42_forcers_j57 (R : Nat → Int32 → Int32 → Int64 → Int32 → mjZt → Option Int64) (x0 : Nat) (x2 : Int32) (x3 : Int32) (x4 : Int64) (x6 : Int32) (x7 : Nat) (Z : mjZt) : Option Int64 :=
  f42_forcers_j58 R x0 x2 x3 x4 x6 x7 0 Z
theorem f42_forcers_j57_ok (R : Nat → Int32 → Int32 → Int64 → Int32 → mjZt → Option Int64) (hR : ∀ (x0 : Nat) (x2 : Int32) (x3 : Int32) (x4 : Int64) (x6 : Int32) (d1 d5 d7 d8 : Option Value) (Z : mjZt) (v9 : Int64), R x0 x2 x3 x4 x6 Z = some v9 → pG 42 15 [some (.ref x0), d1, some (.int x2), some (.int x3), some (.long x4), d5, some (.int x6), d7, d8] [] (mjTo Z) (fun r M1 => r = some (.long v9) ∧ M1 = mjTo Z)) (x0 : Nat) (x2 : Int32) (x3 : Int32) (x4 : Int64) (x6 : Int32) (x7 : Nat) (d1 d5 d8 : Option Value) (Z : mjZt) (v9 : Int64) (h : f42_forcers_j57 R x0 x2 x3 x4 x6 x7 Z = some v9) : pG 42 57 [some (.ref x0), d1, some (.int x2), some (.int x3), some (.long x4), d5, some (.int x6), some (.ref x7), d8] [] (mjTo Z) (fun r M1 => r = some (.long v9) ∧ M1 = mjTo Z) := by
  unfold f42_forcers_j57 at h
  refine pG_many 1 (pc1 := 58) (L1 := [some (.ref x0), d1, some (.int x2), some (.int x3), some (.long x4), d5, some (.int x6), some (.ref x7), d8]) (st1 := [.int 0]) (M1 := mjTo Z) (fun _ _ => rfl) ?_
  exact f42_forcers_j58_ok R hR x0 x2 x3 x4 x6 x7 0 d1 d5 d8 Z v9 h
def f42_forcers_h15 : Nat → Nat → Int32 → Int32 → Int64 → Int32 → mjZt → Option Int64
  | 0, _, _, _, _, _, _ => none
  | n + 1, x0, x2, x3, x4, x6, Z =>
    if mjIs x0 211 2 = true then
    if mjCmp .ge x6 (Z.1 x0 6) = true then
      some x4
    else
      mjBp (f6_deed x0 x6 Z) fun v109 =>
      if mjIs v109 211 0 = true then
      if mjCmp .lt (Z.1 v109 3) (x2 - 20) = true then
        f42_forcers_j57 (f42_forcers_h15 n) x0 x2 x3 x4 x6 v109 Z
      else
        if mjCmp .gt (Z.1 v109 3) x2 = true then
          f42_forcers_j57 (f42_forcers_h15 n) x0 x2 x3 x4 x6 v109 Z
        else
          f42_forcers_j58 (f42_forcers_h15 n) x0 x2 x3 x4 x6 v109 1 Z
      else none
    else none
theorem f42_forcers_h15_ok : ∀ (n : Nat) (x0 : Nat) (x2 : Int32) (x3 : Int32) (x4 : Int64) (x6 : Int32) (d1 d5 d7 d8 : Option Value) (Z : mjZt) (v9 : Int64), f42_forcers_h15 n x0 x2 x3 x4 x6 Z = some v9 → pG 42 15 [some (.ref x0), d1, some (.int x2), some (.int x3), some (.long x4), d5, some (.int x6), d7, d8] [] (mjTo Z) (fun r M1 => r = some (.long v9) ∧ M1 = mjTo Z)
  | 0, x0, x2, x3, x4, x6, d1, d5, d7, d8, Z, v9, h => by rw [f42_forcers_h15] at h; cases h
  | n + 1, x0, x2, x3, x4, x6, d1, d5, d7, d8, Z, v9, h => by
      rw [f42_forcers_h15] at h
      refine pG_many 2 (pc1 := 18) (L1 := [some (.ref x0), d1, some (.int x2), some (.int x3), some (.long x4), d5, some (.int x6), d7, d8]) (st1 := [.ref x0, .int x6]) (M1 := mjTo Z) (fun _ _ => rfl) ?_
      have hk106 : mjIs x0 211 2 = true := by
        by_cases q9 : mjIs x0 211 2 = true
        · exact q9
        · rw [if_neg q9] at h; cases h
      rw [if_pos hk106] at h
      refine pG_getI (ci := 2) (f := 6) rfl rfl (Or.inl rfl) hk106 (by decide) ?_
      by_cases hc107 : mjCmp .ge x6 (Z.1 x0 6) = true
      · rw [if_pos hc107] at h
        refine pG_cmt (t := 98) rfl rfl hc107 ?_
        refine pG_many 1 (pc1 := 100) (L1 := [some (.ref x0), d1, some (.int x2), some (.int x3), some (.long x4), d5, some (.int x6), d7, d8]) (st1 := [.long x4]) (M1 := mjTo Z) (fun _ _ => rfl) ?_
        simp only [Option.some.injEq] at h
        subst h
        exact pG_ret (r := some (.long x4)) rfl ⟨rfl, rfl⟩
      · rw [if_neg hc107] at h
        refine pG_cmf (t := 98) rfl rfl hc107 ?_
        refine pG_many 2 (pc1 := 27) (L1 := [some (.ref x0), d1, some (.int x2), some (.int x3), some (.long x4), d5, some (.int x6), d7, d8]) (st1 := [.int x6, .ref x0]) (M1 := mjTo Z) (fun _ _ => rfl) ?_
        cases hq108 : f6_deed x0 x6 Z with
        | none => rw [hq108] at h; cases h
        | some v109 =>
          rw [hq108, mjBp_some] at h
          refine pG_callV (k2 := 6) (As := [.ref x0, .int x6]) (rest := []) rfl rfl rfl rfl rfl (mjRcv_is hk106 (by decide)) (by decide) (by decide) (f6_deed_ok hq108) ?_
          rintro r9 M9 ⟨rfl, rfl⟩
          show pG 42 30 [some (.ref x0), d1, some (.int x2), some (.int x3), some (.long x4), d5, some (.int x6), d7, d8] [.ref v109] (mjTo Z) _
          refine pG_many 2 (pc1 := 34) (L1 := [some (.ref x0), d1, some (.int x2), some (.int x3), some (.long x4), d5, some (.int x6), some (.ref v109), d8]) (st1 := [.ref v109]) (M1 := mjTo Z) (fun _ _ => rfl) ?_
          have hk111 : mjIs v109 211 0 = true := by
            by_cases q9 : mjIs v109 211 0 = true
            · exact q9
            · rw [if_neg q9] at h; cases h
          rw [if_pos hk111] at h
          refine pG_getI (ci := 0) (f := 3) rfl rfl (Or.inl rfl) hk111 (by decide) ?_
          refine pG_many 3 (pc1 := 41) (L1 := [some (.ref x0), d1, some (.int x2), some (.int x3), some (.long x4), d5, some (.int x6), some (.ref v109), d8]) (st1 := [.int (x2 - 20), .int (Z.1 v109 3)]) (M1 := mjTo Z) (fun _ _ => rfl) ?_
          by_cases hc112 : mjCmp .lt (Z.1 v109 3) (x2 - 20) = true
          · rw [if_pos hc112] at h
            refine pG_cmt (t := 57) rfl rfl hc112 ?_
            exact f42_forcers_j57_ok (f42_forcers_h15 n) (fun x0 x2 x3 x4 x6 d1 d5 d7 d8 Z v9 h => f42_forcers_h15_ok n x0 x2 x3 x4 x6 d1 d5 d7 d8 Z v9 h) x0 x2 x3 x4 x6 v109 d1 d5 d8 Z v9 h
          · rw [if_neg hc112] at h
            refine pG_cmf (t := 57) rfl rfl hc112 ?_
            refine pG_many 1 (pc1 := 46) (L1 := [some (.ref x0), d1, some (.int x2), some (.int x3), some (.long x4), d5, some (.int x6), some (.ref v109), d8]) (st1 := [.ref v109]) (M1 := mjTo Z) (fun _ _ => rfl) ?_
            refine pG_getI (ci := 0) (f := 3) rfl rfl (Or.inl rfl) hk111 (by decide) ?_
            refine pG_many 1 (pc1 := 50) (L1 := [some (.ref x0), d1, some (.int x2), some (.int x3), some (.long x4), d5, some (.int x6), some (.ref v109), d8]) (st1 := [.int x2, .int (Z.1 v109 3)]) (M1 := mjTo Z) (fun _ _ => rfl) ?_
            by_cases hc117 : mjCmp .gt (Z.1 v109 3) x2 = true
            · rw [if_pos hc117] at h
              refine pG_cmt (t := 57) rfl rfl hc117 ?_
              exact f42_forcers_j57_ok (f42_forcers_h15 n) (fun x0 x2 x3 x4 x6 d1 d5 d7 d8 Z v9 h => f42_forcers_h15_ok n x0 x2 x3 x4 x6 d1 d5 d7 d8 Z v9 h) x0 x2 x3 x4 x6 v109 d1 d5 d8 Z v9 h
            · rw [if_neg hc117] at h
              refine pG_cmf (t := 57) rfl rfl hc117 ?_
              refine pG_many 2 (pc1 := 58) (L1 := [some (.ref x0), d1, some (.int x2), some (.int x3), some (.long x4), d5, some (.int x6), some (.ref v109), d8]) (st1 := [.int 1]) (M1 := mjTo Z) (fun _ _ => rfl) ?_
              exact f42_forcers_j58_ok (f42_forcers_h15 n) (fun x0 x2 x3 x4 x6 d1 d5 d7 d8 Z v9 h => f42_forcers_h15_ok n x0 x2 x3 x4 x6 d1 d5 d7 d8 Z v9 h) x0 x2 x3 x4 x6 v109 1 d1 d5 d8 Z v9 h
def f42_forcers (a0 : Nat) (p0 : Int32) (p1 : Int32) (Z : mjZt) : Option Int64 :=
  if mjIs a0 211 2 = true then
  mjBp (f6_deed a0 p0 Z) fun v103 =>
  if mjIs v103 211 0 = true then
  f42_forcers_h15 mjF a0 p1 (Z.1 v103 1) 0 0 Z
  else none
  else none
theorem f42_forcers_ok {a0 : Nat} {p0 : Int32} {p1 : Int32} {Z : mjZt} {v9 : Int64} (h : f42_forcers a0 p0 p1 Z = some v9) : pG 42 0 (mjEnt [.ref a0, .int p0, .int p1] (mjML 42)) [] (mjTo Z) (fun r M1 => r = some (.long v9) ∧ M1 = mjTo Z) := by
  unfold f42_forcers at h
  show pG 42 0 [some (.ref a0), some (.int p0), some (.int p1), none, none, none, none, none, none] [] (mjTo Z) _
  refine pG_many 2 (pc1 := 2) (L1 := [some (.ref a0), some (.int p0), some (.int p1), none, none, none, none, none, none]) (st1 := [.int p0, .ref a0]) (M1 := mjTo Z) (fun _ _ => rfl) ?_
  have hk101 : mjIs a0 211 2 = true := by
    by_cases q9 : mjIs a0 211 2 = true
    · exact q9
    · rw [if_neg q9] at h; cases h
  rw [if_pos hk101] at h
  cases hq102 : f6_deed a0 p0 Z with
  | none => rw [hq102] at h; cases h
  | some v103 =>
    rw [hq102, mjBp_some] at h
    refine pG_callV (k2 := 6) (As := [.ref a0, .int p0]) (rest := []) rfl rfl rfl rfl rfl (mjRcv_is hk101 (by decide)) (by decide) (by decide) (f6_deed_ok hq102) ?_
    rintro r9 M9 ⟨rfl, rfl⟩
    show pG 42 5 [some (.ref a0), some (.int p0), some (.int p1), none, none, none, none, none, none] [.ref v103] (mjTo Z) _
    have hk105 : mjIs v103 211 0 = true := by
      by_cases q9 : mjIs v103 211 0 = true
      · exact q9
      · rw [if_neg q9] at h; cases h
    rw [if_pos hk105] at h
    refine pG_getI (ci := 0) (f := 1) rfl rfl (Or.inl rfl) hk105 (by decide) ?_
    refine pG_many 5 (pc1 := 15) (L1 := [some (.ref a0), some (.int p0), some (.int p1), some (.int (Z.1 v103 1)), some (.long 0), none, some (.int 0), none, none]) (st1 := []) (M1 := mjTo Z) (fun _ _ => rfl) ?_
    exact f42_forcers_h15_ok mjF a0 p1 (Z.1 v103 1) 0 0 (some (.int p0)) none none none Z v9 h
def f43_teamsAhead_h12 : Nat → Nat → Nat → Int32 → Int32 → Int32 → Int32 → mjZt → Option Int32
  | 0, _, _, _, _, _, _, _ => none
  | n + 1, x0, x1, x2, x3, x4, x5, Z =>
    if mjIs x0 211 2 = true then
    if mjCmp .ge x5 (Z.1 x0 5) = true then
      some x4
    else
      mjBp (f5_at x1 x5 Z) fun v107 =>
      if mjCmp .lt v107 x3 = true then
        f43_teamsAhead_h12 n x0 x1 x2 x3 (x4 + 1) (x5 + 1) Z
      else
        if mjCmp .ne v107 x3 = true then
          f43_teamsAhead_h12 n x0 x1 x2 x3 x4 (x5 + 1) Z
        else
          mjBp (f8_runner x0 x5 Z) fun v112 =>
          if mjIs v112 211 7 = true then
          mjBp (f8_runner x0 x2 Z) fun v116 =>
          if mjIs v116 211 7 = true then
          if mjCmp .ge (Z.1 v112 5) (Z.1 v116 5) = true then
            f43_teamsAhead_h12 n x0 x1 x2 x3 x4 (x5 + 1) Z
          else
            f43_teamsAhead_h12 n x0 x1 x2 x3 (x4 + 1) (x5 + 1) Z
          else none
          else none
    else none
theorem f43_teamsAhead_h12_ok : ∀ (n : Nat) (x0 : Nat) (x1 : Nat) (x2 : Int32) (x3 : Int32) (x4 : Int32) (x5 : Int32) (d6 : Option Value) (Z : mjZt) (v9 : Int32), f43_teamsAhead_h12 n x0 x1 x2 x3 x4 x5 Z = some v9 → pG 43 12 [some (.ref x0), some (.ref x1), some (.int x2), some (.int x3), some (.int x4), some (.int x5), d6] [] (mjTo Z) (fun r M1 => r = some (.int v9) ∧ M1 = mjTo Z)
  | 0, x0, x1, x2, x3, x4, x5, d6, Z, v9, h => by rw [f43_teamsAhead_h12] at h; cases h
  | n + 1, x0, x1, x2, x3, x4, x5, d6, Z, v9, h => by
      rw [f43_teamsAhead_h12] at h
      refine pG_many 2 (pc1 := 15) (L1 := [some (.ref x0), some (.ref x1), some (.int x2), some (.int x3), some (.int x4), some (.int x5), d6]) (st1 := [.ref x0, .int x5]) (M1 := mjTo Z) (fun _ _ => rfl) ?_
      have hk104 : mjIs x0 211 2 = true := by
        by_cases q9 : mjIs x0 211 2 = true
        · exact q9
        · rw [if_neg q9] at h; cases h
      rw [if_pos hk104] at h
      refine pG_getI (ci := 2) (f := 5) rfl rfl (Or.inl rfl) hk104 (by decide) ?_
      by_cases hc105 : mjCmp .ge x5 (Z.1 x0 5) = true
      · rw [if_pos hc105] at h
        refine pG_cmt (t := 70) rfl rfl hc105 ?_
        refine pG_many 1 (pc1 := 72) (L1 := [some (.ref x0), some (.ref x1), some (.int x2), some (.int x3), some (.int x4), some (.int x5), d6]) (st1 := [.int x4]) (M1 := mjTo Z) (fun _ _ => rfl) ?_
        simp only [Option.some.injEq] at h
        subst h
        exact pG_ret (r := some (.int x4)) rfl ⟨rfl, rfl⟩
      · rw [if_neg hc105] at h
        refine pG_cmf (t := 70) rfl rfl hc105 ?_
        refine pG_many 2 (pc1 := 24) (L1 := [some (.ref x0), some (.ref x1), some (.int x2), some (.int x3), some (.int x4), some (.int x5), d6]) (st1 := [.int x5, .ref x1]) (M1 := mjTo Z) (fun _ _ => rfl) ?_
        cases hq106 : f5_at x1 x5 Z with
        | none => rw [hq106] at h; cases h
        | some v107 =>
          rw [hq106, mjBp_some] at h
          refine pG_call (k2 := 5) (As := [.ref x1, .int x5]) (rest := []) (fun _ _ => rfl) (by decide) (by decide) (f5_at_ok hq106) ?_
          rintro r9 M9 ⟨rfl, rfl⟩
          show pG 43 27 [some (.ref x0), some (.ref x1), some (.int x2), some (.int x3), some (.int x4), some (.int x5), d6] [.int v107] (mjTo Z) _
          refine pG_many 3 (pc1 := 32) (L1 := [some (.ref x0), some (.ref x1), some (.int x2), some (.int x3), some (.int x4), some (.int x5), some (.int v107)]) (st1 := [.int x3, .int v107]) (M1 := mjTo Z) (fun _ _ => rfl) ?_
          by_cases hc109 : mjCmp .lt v107 x3 = true
          · rw [if_pos hc109] at h
            refine pG_cmt (t := 61) rfl rfl hc109 ?_
            refine pG_many 3 (pc1 := 12) (L1 := [some (.ref x0), some (.ref x1), some (.int x2), some (.int x3), some (.int (x4 + 1)), some (.int (x5 + 1)), some (.int v107)]) (st1 := []) (M1 := mjTo Z) (fun _ _ => rfl) ?_
            exact f43_teamsAhead_h12_ok n x0 x1 x2 x3 (x4 + 1) (x5 + 1) (some (.int v107)) Z v9 h
          · rw [if_neg hc109] at h
            refine pG_cmf (t := 61) rfl rfl hc109 ?_
            refine pG_many 2 (pc1 := 38) (L1 := [some (.ref x0), some (.ref x1), some (.int x2), some (.int x3), some (.int x4), some (.int x5), some (.int v107)]) (st1 := [.int x3, .int v107]) (M1 := mjTo Z) (fun _ _ => rfl) ?_
            by_cases hc110 : mjCmp .ne v107 x3 = true
            · rw [if_pos hc110] at h
              refine pG_cmt (t := 64) rfl rfl hc110 ?_
              refine pG_many 2 (pc1 := 12) (L1 := [some (.ref x0), some (.ref x1), some (.int x2), some (.int x3), some (.int x4), some (.int (x5 + 1)), some (.int v107)]) (st1 := []) (M1 := mjTo Z) (fun _ _ => rfl) ?_
              exact f43_teamsAhead_h12_ok n x0 x1 x2 x3 x4 (x5 + 1) (some (.int v107)) Z v9 h
            · rw [if_neg hc110] at h
              refine pG_cmf (t := 64) rfl rfl hc110 ?_
              refine pG_many 2 (pc1 := 44) (L1 := [some (.ref x0), some (.ref x1), some (.int x2), some (.int x3), some (.int x4), some (.int x5), some (.int v107)]) (st1 := [.int x5, .ref x0]) (M1 := mjTo Z) (fun _ _ => rfl) ?_
              cases hq111 : f8_runner x0 x5 Z with
              | none => rw [hq111] at h; cases h
              | some v112 =>
                rw [hq111, mjBp_some] at h
                refine pG_callV (k2 := 8) (As := [.ref x0, .int x5]) (rest := []) rfl rfl rfl rfl rfl (mjRcv_is hk104 (by decide)) (by decide) (by decide) (f8_runner_ok hq111) ?_
                rintro r9 M9 ⟨rfl, rfl⟩
                show pG 43 47 [some (.ref x0), some (.ref x1), some (.int x2), some (.int x3), some (.int x4), some (.int x5), some (.int v107)] [.ref v112] (mjTo Z) _
                have hk114 : mjIs v112 211 7 = true := by
                  by_cases q9 : mjIs v112 211 7 = true
                  · exact q9
                  · rw [if_neg q9] at h; cases h
                rw [if_pos hk114] at h
                refine pG_getI (ci := 7) (f := 5) rfl rfl (Or.inl rfl) hk114 (by decide) ?_
                refine pG_many 2 (pc1 := 52) (L1 := [some (.ref x0), some (.ref x1), some (.int x2), some (.int x3), some (.int x4), some (.int x5), some (.int v107)]) (st1 := [.int x2, .ref x0, .int (Z.1 v112 5)]) (M1 := mjTo Z) (fun _ _ => rfl) ?_
                cases hq115 : f8_runner x0 x2 Z with
                | none => rw [hq115] at h; cases h
                | some v116 =>
                  rw [hq115, mjBp_some] at h
                  refine pG_callV (k2 := 8) (As := [.ref x0, .int x2]) (rest := [.int (Z.1 v112 5)]) rfl rfl rfl rfl rfl (mjRcv_is hk104 (by decide)) (by decide) (by decide) (f8_runner_ok hq115) ?_
                  rintro r9 M9 ⟨rfl, rfl⟩
                  show pG 43 55 [some (.ref x0), some (.ref x1), some (.int x2), some (.int x3), some (.int x4), some (.int x5), some (.int v107)] [.ref v116, .int (Z.1 v112 5)] (mjTo Z) _
                  have hk118 : mjIs v116 211 7 = true := by
                    by_cases q9 : mjIs v116 211 7 = true
                    · exact q9
                    · rw [if_neg q9] at h; cases h
                  rw [if_pos hk118] at h
                  refine pG_getI (ci := 7) (f := 5) rfl rfl (Or.inl rfl) hk118 (by decide) ?_
                  by_cases hc119 : mjCmp .ge (Z.1 v112 5) (Z.1 v116 5) = true
                  · rw [if_pos hc119] at h
                    refine pG_cmt (t := 64) rfl rfl hc119 ?_
                    refine pG_many 2 (pc1 := 12) (L1 := [some (.ref x0), some (.ref x1), some (.int x2), some (.int x3), some (.int x4), some (.int (x5 + 1)), some (.int v107)]) (st1 := []) (M1 := mjTo Z) (fun _ _ => rfl) ?_
                    exact f43_teamsAhead_h12_ok n x0 x1 x2 x3 x4 (x5 + 1) (some (.int v107)) Z v9 h
                  · rw [if_neg hc119] at h
                    refine pG_cmf (t := 64) rfl rfl hc119 ?_
                    refine pG_many 3 (pc1 := 12) (L1 := [some (.ref x0), some (.ref x1), some (.int x2), some (.int x3), some (.int (x4 + 1)), some (.int (x5 + 1)), some (.int v107)]) (st1 := []) (M1 := mjTo Z) (fun _ _ => rfl) ?_
                    exact f43_teamsAhead_h12_ok n x0 x1 x2 x3 (x4 + 1) (x5 + 1) (some (.int v107)) Z v9 h
def f43_teamsAhead (a0 : Nat) (p0 : Nat) (p1 : Int32) (Z : mjZt) : Option Int32 :=
  mjBp (f5_at p0 p1 Z) fun v102 =>
  f43_teamsAhead_h12 mjF a0 p0 p1 v102 0 0 Z
theorem f43_teamsAhead_ok {a0 : Nat} {p0 : Nat} {p1 : Int32} {Z : mjZt} {v9 : Int32} (h : f43_teamsAhead a0 p0 p1 Z = some v9) : pG 43 0 (mjEnt [.ref a0, .ref p0, .int p1] (mjML 43)) [] (mjTo Z) (fun r M1 => r = some (.int v9) ∧ M1 = mjTo Z) := by
  unfold f43_teamsAhead at h
  show pG 43 0 [some (.ref a0), some (.ref p0), some (.int p1), none, none, none, none] [] (mjTo Z) _
  refine pG_many 2 (pc1 := 2) (L1 := [some (.ref a0), some (.ref p0), some (.int p1), none, none, none, none]) (st1 := [.int p1, .ref p0]) (M1 := mjTo Z) (fun _ _ => rfl) ?_
  cases hq101 : f5_at p0 p1 Z with
  | none => rw [hq101] at h; cases h
  | some v102 =>
    rw [hq101, mjBp_some] at h
    refine pG_call (k2 := 5) (As := [.ref p0, .int p1]) (rest := []) (fun _ _ => rfl) (by decide) (by decide) (f5_at_ok hq101) ?_
    rintro r9 M9 ⟨rfl, rfl⟩
    show pG 43 5 [some (.ref a0), some (.ref p0), some (.int p1), none, none, none, none] [.int v102] (mjTo Z) _
    refine pG_many 5 (pc1 := 12) (L1 := [some (.ref a0), some (.ref p0), some (.int p1), some (.int v102), some (.int 0), some (.int 0), none]) (st1 := []) (M1 := mjTo Z) (fun _ _ => rfl) ?_
    exact f43_teamsAhead_h12_ok mjF a0 p0 p1 v102 0 0 none Z v9 h
def f44_kth_h2 : Nat → Nat → Nat → Int32 → Int32 → mjZt → Option Int32
  | 0, _, _, _, _, _ => none
  | n + 1, x0, x1, x2, x3, Z =>
    if mjIs x0 211 2 = true then
    if mjCmp .ge x3 (Z.1 x0 5) = true then
      some ((-1))
    else
      mjBp (f5_at x1 x3 Z) fun v104 =>
      if mjCmp .eq v104 2147483647 = true then
        f44_kth_h2 n x0 x1 x2 (x3 + 1) Z
      else
        mjBp (f43_teamsAhead x0 x1 x3 Z) fun v108 =>
        if mjCmp .ne v108 x2 = true then
          f44_kth_h2 n x0 x1 x2 (x3 + 1) Z
        else
          some x3
    else none
theorem f44_kth_h2_ok : ∀ (n : Nat) (x0 : Nat) (x1 : Nat) (x2 : Int32) (x3 : Int32) (Z : mjZt) (v9 : Int32), f44_kth_h2 n x0 x1 x2 x3 Z = some v9 → pG 44 2 [some (.ref x0), some (.ref x1), some (.int x2), some (.int x3)] [] (mjTo Z) (fun r M1 => r = some (.int v9) ∧ M1 = mjTo Z)
  | 0, x0, x1, x2, x3, Z, v9, h => by rw [f44_kth_h2] at h; cases h
  | n + 1, x0, x1, x2, x3, Z, v9, h => by
      rw [f44_kth_h2] at h
      refine pG_many 2 (pc1 := 4) (L1 := [some (.ref x0), some (.ref x1), some (.int x2), some (.int x3)]) (st1 := [.ref x0, .int x3]) (M1 := mjTo Z) (fun _ _ => rfl) ?_
      have hk101 : mjIs x0 211 2 = true := by
        by_cases q9 : mjIs x0 211 2 = true
        · exact q9
        · rw [if_neg q9] at h; cases h
      rw [if_pos hk101] at h
      refine pG_getI (ci := 2) (f := 5) rfl rfl (Or.inl rfl) hk101 (by decide) ?_
      by_cases hc102 : mjCmp .ge x3 (Z.1 x0 5) = true
      · rw [if_pos hc102] at h
        refine pG_cmt (t := 38) rfl rfl hc102 ?_
        refine pG_many 1 (pc1 := 39) (L1 := [some (.ref x0), some (.ref x1), some (.int x2), some (.int x3)]) (st1 := [.int ((-1))]) (M1 := mjTo Z) (fun _ _ => rfl) ?_
        simp only [Option.some.injEq] at h
        subst h
        exact pG_ret (r := some (.int ((-1)))) rfl ⟨rfl, rfl⟩
      · rw [if_neg hc102] at h
        refine pG_cmf (t := 38) rfl rfl hc102 ?_
        refine pG_many 2 (pc1 := 12) (L1 := [some (.ref x0), some (.ref x1), some (.int x2), some (.int x3)]) (st1 := [.int x3, .ref x1]) (M1 := mjTo Z) (fun _ _ => rfl) ?_
        cases hq103 : f5_at x1 x3 Z with
        | none => rw [hq103] at h; cases h
        | some v104 =>
          rw [hq103, mjBp_some] at h
          refine pG_call (k2 := 5) (As := [.ref x1, .int x3]) (rest := []) (fun _ _ => rfl) (by decide) (by decide) (f5_at_ok hq103) ?_
          rintro r9 M9 ⟨rfl, rfl⟩
          show pG 44 15 [some (.ref x0), some (.ref x1), some (.int x2), some (.int x3)] [.int v104] (mjTo Z) _
          refine pG_many 1 (pc1 := 17) (L1 := [some (.ref x0), some (.ref x1), some (.int x2), some (.int x3)]) (st1 := [.int 2147483647, .int v104]) (M1 := mjTo Z) (fun _ _ => rfl) ?_
          by_cases hc106 : mjCmp .eq v104 2147483647 = true
          · rw [if_pos hc106] at h
            refine pG_cmt (t := 32) rfl rfl hc106 ?_
            refine pG_many 2 (pc1 := 2) (L1 := [some (.ref x0), some (.ref x1), some (.int x2), some (.int (x3 + 1))]) (st1 := []) (M1 := mjTo Z) (fun _ _ => rfl) ?_
            exact f44_kth_h2_ok n x0 x1 x2 (x3 + 1) Z v9 h
          · rw [if_neg hc106] at h
            refine pG_cmf (t := 32) rfl rfl hc106 ?_
            refine pG_many 3 (pc1 := 23) (L1 := [some (.ref x0), some (.ref x1), some (.int x2), some (.int x3)]) (st1 := [.int x3, .ref x1, .ref x0]) (M1 := mjTo Z) (fun _ _ => rfl) ?_
            cases hq107 : f43_teamsAhead x0 x1 x3 Z with
            | none => rw [hq107] at h; cases h
            | some v108 =>
              rw [hq107, mjBp_some] at h
              refine pG_callV (k2 := 43) (As := [.ref x0, .ref x1, .int x3]) (rest := []) rfl rfl rfl rfl rfl (mjRcv_is hk101 (by decide)) (by decide) (by decide) (f43_teamsAhead_ok hq107) ?_
              rintro r9 M9 ⟨rfl, rfl⟩
              show pG 44 26 [some (.ref x0), some (.ref x1), some (.int x2), some (.int x3)] [.int v108] (mjTo Z) _
              refine pG_many 1 (pc1 := 27) (L1 := [some (.ref x0), some (.ref x1), some (.int x2), some (.int x3)]) (st1 := [.int x2, .int v108]) (M1 := mjTo Z) (fun _ _ => rfl) ?_
              by_cases hc110 : mjCmp .ne v108 x2 = true
              · rw [if_pos hc110] at h
                refine pG_cmt (t := 32) rfl rfl hc110 ?_
                refine pG_many 2 (pc1 := 2) (L1 := [some (.ref x0), some (.ref x1), some (.int x2), some (.int (x3 + 1))]) (st1 := []) (M1 := mjTo Z) (fun _ _ => rfl) ?_
                exact f44_kth_h2_ok n x0 x1 x2 (x3 + 1) Z v9 h
              · rw [if_neg hc110] at h
                refine pG_cmf (t := 32) rfl rfl hc110 ?_
                refine pG_many 1 (pc1 := 31) (L1 := [some (.ref x0), some (.ref x1), some (.int x2), some (.int x3)]) (st1 := [.int x3]) (M1 := mjTo Z) (fun _ _ => rfl) ?_
                simp only [Option.some.injEq] at h
                subst h
                exact pG_ret (r := some (.int x3)) rfl ⟨rfl, rfl⟩
def f44_kth (a0 : Nat) (p0 : Nat) (p1 : Int32) (Z : mjZt) : Option Int32 :=
  f44_kth_h2 mjF a0 p0 p1 0 Z
theorem f44_kth_ok {a0 : Nat} {p0 : Nat} {p1 : Int32} {Z : mjZt} {v9 : Int32} (h : f44_kth a0 p0 p1 Z = some v9) : pG 44 0 (mjEnt [.ref a0, .ref p0, .int p1] (mjML 44)) [] (mjTo Z) (fun r M1 => r = some (.int v9) ∧ M1 = mjTo Z) := by
  unfold f44_kth at h
  show pG 44 0 [some (.ref a0), some (.ref p0), some (.int p1), none] [] (mjTo Z) _
  refine pG_many 2 (pc1 := 2) (L1 := [some (.ref a0), some (.ref p0), some (.int p1), some (.int 0)]) (st1 := []) (M1 := mjTo Z) (fun _ _ => rfl) ?_
  exact f44_kth_h2_ok mjF a0 p0 p1 0 Z v9 h
def f46_begin (a0 : Nat) (p0 : Int32) (Z : mjZt) : Option (Unit × mjZt) :=
  if mjCmp .lt p0 0 = true then
    some ((), Z)
  else
    if mjIs a0 211 8 = true then
    if mjIs (a0 + 4) 211 13 = true then
    if mjCmp .ge p0 (Int32.ofNat (mjLay (a0 + 4)).2) = true then
      some ((), Z)
    else
      mjLet (zSi Z a0 6 p0) fun Z105 =>
      if mjIn p0 (mjLay (a0 + 4)).2 = true then
      mjLet (zSi Z105 (a0 + 4) (mjIx p0) (Z105.1 a0 7)) fun Z107 =>
      if mjIs (a0 + 6) 211 13 = true then
      if mjIn p0 (mjLay (a0 + 6)).2 = true then
      mjLet (zSi Z107 (a0 + 6) (mjIx p0) 0) fun Z110 =>
      some ((), Z110)
      else none
      else none
      else none
    else none
    else none
theorem f46_begin_ok {a0 : Nat} {p0 : Int32} {Z : mjZt} {v9 : Unit} {Z9 : mjZt} (h : f46_begin a0 p0 Z = some (v9, Z9)) : pG 46 0 (mjEnt [.ref a0, .int p0] (mjML 46)) [] (mjTo Z) (fun r M1 => r = none ∧ M1 = mjTo Z9) := by
  unfold f46_begin at h
  show pG 46 0 [some (.ref a0), some (.int p0)] [] (mjTo Z) _
  refine pG_many 1 (pc1 := 1) (L1 := [some (.ref a0), some (.int p0)]) (st1 := [.int p0]) (M1 := mjTo Z) (fun _ _ => rfl) ?_
  by_cases hc101 : mjCmp .lt p0 0 = true
  · rw [if_pos hc101] at h
    refine pG_ift (t := 35) rfl rfl hc101 ?_
    simp only [Option.some.injEq, Prod.mk.injEq] at h
    obtain ⟨-, rfl⟩ := h
    exact pG_ret (r := none) rfl ⟨rfl, rfl⟩
  · rw [if_neg hc101] at h
    refine pG_iff (t := 35) rfl rfl hc101 ?_
    refine pG_many 2 (pc1 := 6) (L1 := [some (.ref a0), some (.int p0)]) (st1 := [.ref a0, .int p0]) (M1 := mjTo Z) (fun _ _ => rfl) ?_
    have hk102 : mjIs a0 211 8 = true := by
      by_cases q9 : mjIs a0 211 8 = true
      · exact q9
      · rw [if_neg q9] at h; cases h
    rw [if_pos hk102] at h
    refine pG_getR (ci := 8) (f := 3) (b := a0 + 4) rfl rfl rfl hk102 (by decide) (mjRc8_3 hk102) ?_
    have hk103 : mjIs (a0 + 4) 211 13 = true := by
      by_cases q9 : mjIs (a0 + 4) 211 13 = true
      · exact q9
      · rw [if_neg q9] at h; cases h
    rw [if_pos hk103] at h
    refine pG_lenS (c := 13) rfl (by decide) (by decide) hk103 ?_
    by_cases hc104 : mjCmp .ge p0 (Int32.ofNat (mjLay (a0 + 4)).2) = true
    · rw [if_pos hc104] at h
      refine pG_cmt (t := 35) rfl rfl hc104 ?_
      simp only [Option.some.injEq, Prod.mk.injEq] at h
      obtain ⟨-, rfl⟩ := h
      exact pG_ret (r := none) rfl ⟨rfl, rfl⟩
    · rw [if_neg hc104] at h
      refine pG_cmf (t := 35) rfl rfl hc104 ?_
      refine pG_many 2 (pc1 := 15) (L1 := [some (.ref a0), some (.int p0)]) (st1 := [.int p0, .ref a0]) (M1 := mjTo Z) (fun _ _ => rfl) ?_
      refine pG_putI (ci := 8) (f := 6) rfl rfl rfl rfl hk102 (by decide) ?_
      rw [mjLet] at h
      generalize zSi Z a0 6 p0 = Z105 at h ⊢
      refine pG_many 1 (pc1 := 19) (L1 := [some (.ref a0), some (.int p0)]) (st1 := [.ref a0]) (M1 := mjTo Z105) (fun _ _ => rfl) ?_
      refine pG_getR (ci := 8) (f := 3) (b := a0 + 4) rfl rfl rfl hk102 (by decide) (mjRc8_3 hk102) ?_
      refine pG_many 2 (pc1 := 24) (L1 := [some (.ref a0), some (.int p0)]) (st1 := [.ref a0, .int p0, .ref (a0 + 4)]) (M1 := mjTo Z105) (fun _ _ => rfl) ?_
      refine pG_getI (ci := 8) (f := 7) rfl rfl (Or.inl rfl) hk102 (by decide) ?_
      have hk106 : mjIn p0 (mjLay (a0 + 4)).2 = true := by
        by_cases q9 : mjIn p0 (mjLay (a0 + 4)).2 = true
        · exact q9
        · rw [if_neg q9] at h; cases h
      rw [if_pos hk106] at h
      refine pG_ias rfl hk103 hk106 (?_ : pG 46 28 [some (.ref a0), some (.int p0)] [] (mjTo (zSi Z105 (a0 + 4) (mjIx p0) (Z105.1 a0 7))) _)
      rw [mjLet] at h
      generalize zSi Z105 (a0 + 4) (mjIx p0) (Z105.1 a0 7) = Z107 at h ⊢
      refine pG_many 1 (pc1 := 29) (L1 := [some (.ref a0), some (.int p0)]) (st1 := [.ref a0]) (M1 := mjTo Z107) (fun _ _ => rfl) ?_
      refine pG_getR (ci := 8) (f := 5) (b := a0 + 6) rfl rfl rfl hk102 (by decide) (mjRc8_5 hk102) ?_
      refine pG_many 2 (pc1 := 34) (L1 := [some (.ref a0), some (.int p0)]) (st1 := [.int 0, .int p0, .ref (a0 + 6)]) (M1 := mjTo Z107) (fun _ _ => rfl) ?_
      have hk108 : mjIs (a0 + 6) 211 13 = true := by
        by_cases q9 : mjIs (a0 + 6) 211 13 = true
        · exact q9
        · rw [if_neg q9] at h; cases h
      rw [if_pos hk108] at h
      have hk109 : mjIn p0 (mjLay (a0 + 6)).2 = true := by
        by_cases q9 : mjIn p0 (mjLay (a0 + 6)).2 = true
        · exact q9
        · rw [if_neg q9] at h; cases h
      rw [if_pos hk109] at h
      refine pG_ias rfl hk108 hk109 (?_ : pG 46 35 [some (.ref a0), some (.int p0)] [] (mjTo (zSi Z107 (a0 + 6) (mjIx p0) 0)) _)
      rw [mjLet] at h
      generalize zSi Z107 (a0 + 6) (mjIx p0) 0 = Z110 at h ⊢
      simp only [Option.some.injEq, Prod.mk.injEq] at h
      obtain ⟨-, rfl⟩ := h
      exact pG_ret (r := none) rfl ⟨rfl, rfl⟩
def f47_comparisonEnds  (Z : mjZt) : Option Int32 :=
  if mjCmp .eq (Z.1 185 3) 0 = true then
    some 0
  else
    if mjCmp .ne (Z.1 185 2) 0 = true then
      some 0
    else
      if mjCmp .eq (Z.1 183 3) 43 = true then
        some 0
      else
        if mjCmp .eq (Z.1 183 3) 45 = true then
          some 0
        else
          if mjCmp .eq (Z.1 183 3) 42 = true then
            some 0
          else
            some 1
theorem f47_comparisonEnds_ok  {Z : mjZt} {v9 : Int32} (h : f47_comparisonEnds  Z = some v9) : pG 47 0 (mjEnt [.ref 185, .ref 183] (mjML 47)) [] (mjTo Z) (fun r M1 => r = some (.int v9) ∧ M1 = mjTo Z) := by
  unfold f47_comparisonEnds at h
  show pG 47 0 [some (.ref 185), some (.ref 183)] [] (mjTo Z) _
  refine pG_many 1 (pc1 := 1) (L1 := [some (.ref 185), some (.ref 183)]) (st1 := [.ref 185]) (M1 := mjTo Z) (fun _ _ => rfl) ?_
  refine pG_getI (ci := 3) (f := 3) rfl rfl (Or.inr rfl) (by rfl) (by decide) ?_
  by_cases hc101 : mjCmp .eq (Z.1 185 3) 0 = true
  · rw [if_pos hc101] at h
    refine pG_ift (t := 45) rfl rfl hc101 ?_
    refine pG_many 1 (pc1 := 46) (L1 := [some (.ref 185), some (.ref 183)]) (st1 := [.int 0]) (M1 := mjTo Z) (fun _ _ => rfl) ?_
    simp only [Option.some.injEq] at h
    subst h
    exact pG_ret (r := some (.int 0)) rfl ⟨rfl, rfl⟩
  · rw [if_neg hc101] at h
    refine pG_iff (t := 45) rfl rfl hc101 ?_
    refine pG_many 1 (pc1 := 8) (L1 := [some (.ref 185), some (.ref 183)]) (st1 := [.ref 185]) (M1 := mjTo Z) (fun _ _ => rfl) ?_
    refine pG_getI (ci := 3) (f := 2) rfl rfl (Or.inl rfl) (by rfl) (by decide) ?_
    by_cases hc102 : mjCmp .ne (Z.1 185 2) 0 = true
    · rw [if_pos hc102] at h
      refine pG_ift (t := 45) rfl rfl hc102 ?_
      refine pG_many 1 (pc1 := 46) (L1 := [some (.ref 185), some (.ref 183)]) (st1 := [.int 0]) (M1 := mjTo Z) (fun _ _ => rfl) ?_
      simp only [Option.some.injEq] at h
      subst h
      exact pG_ret (r := some (.int 0)) rfl ⟨rfl, rfl⟩
    · rw [if_neg hc102] at h
      refine pG_iff (t := 45) rfl rfl hc102 ?_
      refine pG_many 1 (pc1 := 15) (L1 := [some (.ref 185), some (.ref 183)]) (st1 := [.ref 183]) (M1 := mjTo Z) (fun _ _ => rfl) ?_
      refine pG_getI (ci := 9) (f := 3) rfl rfl (Or.inl rfl) (by rfl) (by decide) ?_
      refine pG_many 1 (pc1 := 20) (L1 := [some (.ref 185), some (.ref 183)]) (st1 := [.int 43, .int (Z.1 183 3)]) (M1 := mjTo Z) (fun _ _ => rfl) ?_
      by_cases hc103 : mjCmp .eq (Z.1 183 3) 43 = true
      · rw [if_pos hc103] at h
        refine pG_cmt (t := 45) rfl rfl hc103 ?_
        refine pG_many 1 (pc1 := 46) (L1 := [some (.ref 185), some (.ref 183)]) (st1 := [.int 0]) (M1 := mjTo Z) (fun _ _ => rfl) ?_
        simp only [Option.some.injEq] at h
        subst h
        exact pG_ret (r := some (.int 0)) rfl ⟨rfl, rfl⟩
      · rw [if_neg hc103] at h
        refine pG_cmf (t := 45) rfl rfl hc103 ?_
        refine pG_many 1 (pc1 := 24) (L1 := [some (.ref 185), some (.ref 183)]) (st1 := [.ref 183]) (M1 := mjTo Z) (fun _ _ => rfl) ?_
        refine pG_getI (ci := 9) (f := 3) rfl rfl (Or.inl rfl) (by rfl) (by decide) ?_
        refine pG_many 1 (pc1 := 29) (L1 := [some (.ref 185), some (.ref 183)]) (st1 := [.int 45, .int (Z.1 183 3)]) (M1 := mjTo Z) (fun _ _ => rfl) ?_
        by_cases hc104 : mjCmp .eq (Z.1 183 3) 45 = true
        · rw [if_pos hc104] at h
          refine pG_cmt (t := 45) rfl rfl hc104 ?_
          refine pG_many 1 (pc1 := 46) (L1 := [some (.ref 185), some (.ref 183)]) (st1 := [.int 0]) (M1 := mjTo Z) (fun _ _ => rfl) ?_
          simp only [Option.some.injEq] at h
          subst h
          exact pG_ret (r := some (.int 0)) rfl ⟨rfl, rfl⟩
        · rw [if_neg hc104] at h
          refine pG_cmf (t := 45) rfl rfl hc104 ?_
          refine pG_many 1 (pc1 := 33) (L1 := [some (.ref 185), some (.ref 183)]) (st1 := [.ref 183]) (M1 := mjTo Z) (fun _ _ => rfl) ?_
          refine pG_getI (ci := 9) (f := 3) rfl rfl (Or.inl rfl) (by rfl) (by decide) ?_
          refine pG_many 1 (pc1 := 38) (L1 := [some (.ref 185), some (.ref 183)]) (st1 := [.int 42, .int (Z.1 183 3)]) (M1 := mjTo Z) (fun _ _ => rfl) ?_
          by_cases hc105 : mjCmp .eq (Z.1 183 3) 42 = true
          · rw [if_pos hc105] at h
            refine pG_cmt (t := 45) rfl rfl hc105 ?_
            refine pG_many 1 (pc1 := 46) (L1 := [some (.ref 185), some (.ref 183)]) (st1 := [.int 0]) (M1 := mjTo Z) (fun _ _ => rfl) ?_
            simp only [Option.some.injEq] at h
            subst h
            exact pG_ret (r := some (.int 0)) rfl ⟨rfl, rfl⟩
          · rw [if_neg hc105] at h
            refine pG_cmf (t := 45) rfl rfl hc105 ?_
            refine pG_many 2 (pc1 := 46) (L1 := [some (.ref 185), some (.ref 183)]) (st1 := [.int 1]) (M1 := mjTo Z) (fun _ _ => rfl) ?_
            simp only [Option.some.injEq] at h
            subst h
            exact pG_ret (r := some (.int 1)) rfl ⟨rfl, rfl⟩
def f48_put (a0 : Nat) (p0 : Int32) (p1 : Int32) (p2 : Int32) (Z : mjZt) : Option (Unit × mjZt) :=
  if mjIs a0 211 8 = true then
  if mjCmp .lt (Z.1 a0 7) 0 = true then
    some ((), Z)
  else
    if mjCmp .ge (Z.1 a0 7) 700 = true then
      some ((), Z)
    else
      if mjCmp .lt (Z.1 a0 6) 0 = true then
        some ((), Z)
      else
        if mjIs (a0 + 6) 211 13 = true then
        if mjCmp .lt (Z.1 a0 6) (Int32.ofNat (mjLay (a0 + 6)).2) = true then
          if mjIs (a0 + 1) 211 13 = true then
          if mjIn (Z.1 a0 7) (mjLay (a0 + 1)).2 = true then
          mjLet (zSi Z (a0 + 1) (mjIx (Z.1 a0 7)) p0) fun Z109 =>
          if mjIs (a0 + 2) 211 13 = true then
          if mjIn (Z109.1 a0 7) (mjLay (a0 + 2)).2 = true then
          mjLet (zSi Z109 (a0 + 2) (mjIx (Z109.1 a0 7)) p1) fun Z112 =>
          if mjIs (a0 + 3) 211 13 = true then
          if mjIn (Z112.1 a0 7) (mjLay (a0 + 3)).2 = true then
          mjLet (zSi Z112 (a0 + 3) (mjIx (Z112.1 a0 7)) p2) fun Z115 =>
          if mjCmp .lt p0 7 = true then
            mjLet (zSi Z115 a0 7 ((Z115.1 a0 7) + 1)) fun Z117 =>
            some ((), Z117)
          else
            if mjCmp .gt p0 9 = true then
              mjLet (zSi Z115 a0 7 ((Z115.1 a0 7) + 1)) fun Z119 =>
              some ((), Z119)
            else
              if mjIn (Z115.1 a0 6) (mjLay (a0 + 6)).2 = true then
              if mjIn (Z115.1 a0 7) (mjLay (a0 + 2)).2 = true then
              mjLet (zSi Z115 (a0 + 2) (mjIx (Z115.1 a0 7)) (Z115.1 (a0 + 6) (mjIx (Z115.1 a0 6)))) fun Z122 =>
              if mjIn (Z122.1 a0 6) (mjLay (a0 + 6)).2 = true then
              mjLet (zSi Z122 (a0 + 6) (mjIx (Z122.1 a0 6)) ((Z122.1 (a0 + 6) (mjIx (Z122.1 a0 6))) + 1)) fun Z124 =>
              mjLet (zSi Z124 a0 7 ((Z124.1 a0 7) + 1)) fun Z125 =>
              some ((), Z125)
              else none
              else none
              else none
          else none
          else none
          else none
          else none
          else none
          else none
        else
          some ((), Z)
        else none
  else none
theorem f48_put_ok {a0 : Nat} {p0 : Int32} {p1 : Int32} {p2 : Int32} {Z : mjZt} {v9 : Unit} {Z9 : mjZt} (h : f48_put a0 p0 p1 p2 Z = some (v9, Z9)) : pG 48 0 (mjEnt [.ref a0, .int p0, .int p1, .int p2] (mjML 48)) [] (mjTo Z) (fun r M1 => r = none ∧ M1 = mjTo Z9) := by
  unfold f48_put at h
  show pG 48 0 [some (.ref a0), some (.int p0), some (.int p1), some (.int p2)] [] (mjTo Z) _
  refine pG_many 1 (pc1 := 1) (L1 := [some (.ref a0), some (.int p0), some (.int p1), some (.int p2)]) (st1 := [.ref a0]) (M1 := mjTo Z) (fun _ _ => rfl) ?_
  have hk101 : mjIs a0 211 8 = true := by
    by_cases q9 : mjIs a0 211 8 = true
    · exact q9
    · rw [if_neg q9] at h; cases h
  rw [if_pos hk101] at h
  refine pG_getI (ci := 8) (f := 7) rfl rfl (Or.inl rfl) hk101 (by decide) ?_
  by_cases hc102 : mjCmp .lt (Z.1 a0 7) 0 = true
  · rw [if_pos hc102] at h
    refine pG_ift (t := 36) rfl rfl hc102 ?_
    simp only [Option.some.injEq, Prod.mk.injEq] at h
    obtain ⟨-, rfl⟩ := h
    exact pG_ret (r := none) rfl ⟨rfl, rfl⟩
  · rw [if_neg hc102] at h
    refine pG_iff (t := 36) rfl rfl hc102 ?_
    refine pG_many 1 (pc1 := 8) (L1 := [some (.ref a0), some (.int p0), some (.int p1), some (.int p2)]) (st1 := [.ref a0]) (M1 := mjTo Z) (fun _ _ => rfl) ?_
    refine pG_getI (ci := 8) (f := 7) rfl rfl (Or.inl rfl) hk101 (by decide) ?_
    refine pG_many 1 (pc1 := 14) (L1 := [some (.ref a0), some (.int p0), some (.int p1), some (.int p2)]) (st1 := [.int 700, .int (Z.1 a0 7)]) (M1 := mjTo Z) (fun _ _ => rfl) ?_
    by_cases hc103 : mjCmp .ge (Z.1 a0 7) 700 = true
    · rw [if_pos hc103] at h
      refine pG_cmt (t := 36) rfl rfl hc103 ?_
      simp only [Option.some.injEq, Prod.mk.injEq] at h
      obtain ⟨-, rfl⟩ := h
      exact pG_ret (r := none) rfl ⟨rfl, rfl⟩
    · rw [if_neg hc103] at h
      refine pG_cmf (t := 36) rfl rfl hc103 ?_
      refine pG_many 1 (pc1 := 18) (L1 := [some (.ref a0), some (.int p0), some (.int p1), some (.int p2)]) (st1 := [.ref a0]) (M1 := mjTo Z) (fun _ _ => rfl) ?_
      refine pG_getI (ci := 8) (f := 6) rfl rfl (Or.inl rfl) hk101 (by decide) ?_
      by_cases hc104 : mjCmp .lt (Z.1 a0 6) 0 = true
      · rw [if_pos hc104] at h
        refine pG_ift (t := 36) rfl rfl hc104 ?_
        simp only [Option.some.injEq, Prod.mk.injEq] at h
        obtain ⟨-, rfl⟩ := h
        exact pG_ret (r := none) rfl ⟨rfl, rfl⟩
      · rw [if_neg hc104] at h
        refine pG_iff (t := 36) rfl rfl hc104 ?_
        refine pG_many 1 (pc1 := 25) (L1 := [some (.ref a0), some (.int p0), some (.int p1), some (.int p2)]) (st1 := [.ref a0]) (M1 := mjTo Z) (fun _ _ => rfl) ?_
        refine pG_getI (ci := 8) (f := 6) rfl rfl (Or.inl rfl) hk101 (by decide) ?_
        refine pG_many 1 (pc1 := 29) (L1 := [some (.ref a0), some (.int p0), some (.int p1), some (.int p2)]) (st1 := [.ref a0, .int (Z.1 a0 6)]) (M1 := mjTo Z) (fun _ _ => rfl) ?_
        refine pG_getR (ci := 8) (f := 5) (b := a0 + 6) rfl rfl rfl hk101 (by decide) (mjRc8_5 hk101) ?_
        have hk105 : mjIs (a0 + 6) 211 13 = true := by
          by_cases q9 : mjIs (a0 + 6) 211 13 = true
          · exact q9
          · rw [if_neg q9] at h; cases h
        rw [if_pos hk105] at h
        refine pG_lenS (c := 13) rfl (by decide) (by decide) hk105 ?_
        by_cases hc106 : mjCmp .lt (Z.1 a0 6) (Int32.ofNat (mjLay (a0 + 6)).2) = true
        · rw [if_pos hc106] at h
          refine pG_cmt (t := 37) rfl rfl hc106 ?_
          refine pG_many 1 (pc1 := 38) (L1 := [some (.ref a0), some (.int p0), some (.int p1), some (.int p2)]) (st1 := [.ref a0]) (M1 := mjTo Z) (fun _ _ => rfl) ?_
          refine pG_getR (ci := 8) (f := 0) (b := a0 + 1) rfl rfl rfl hk101 (by decide) (mjRc8_0 hk101) ?_
          refine pG_many 1 (pc1 := 42) (L1 := [some (.ref a0), some (.int p0), some (.int p1), some (.int p2)]) (st1 := [.ref a0, .ref (a0 + 1)]) (M1 := mjTo Z) (fun _ _ => rfl) ?_
          refine pG_getI (ci := 8) (f := 7) rfl rfl (Or.inl rfl) hk101 (by decide) ?_
          refine pG_many 1 (pc1 := 46) (L1 := [some (.ref a0), some (.int p0), some (.int p1), some (.int p2)]) (st1 := [.int p0, .int (Z.1 a0 7), .ref (a0 + 1)]) (M1 := mjTo Z) (fun _ _ => rfl) ?_
          have hk107 : mjIs (a0 + 1) 211 13 = true := by
            by_cases q9 : mjIs (a0 + 1) 211 13 = true
            · exact q9
            · rw [if_neg q9] at h; cases h
          rw [if_pos hk107] at h
          have hk108 : mjIn (Z.1 a0 7) (mjLay (a0 + 1)).2 = true := by
            by_cases q9 : mjIn (Z.1 a0 7) (mjLay (a0 + 1)).2 = true
            · exact q9
            · rw [if_neg q9] at h; cases h
          rw [if_pos hk108] at h
          refine pG_ias rfl hk107 hk108 (?_ : pG 48 47 [some (.ref a0), some (.int p0), some (.int p1), some (.int p2)] [] (mjTo (zSi Z (a0 + 1) (mjIx (Z.1 a0 7)) p0)) _)
          rw [mjLet] at h
          generalize zSi Z (a0 + 1) (mjIx (Z.1 a0 7)) p0 = Z109 at h ⊢
          refine pG_many 1 (pc1 := 48) (L1 := [some (.ref a0), some (.int p0), some (.int p1), some (.int p2)]) (st1 := [.ref a0]) (M1 := mjTo Z109) (fun _ _ => rfl) ?_
          refine pG_getR (ci := 8) (f := 1) (b := a0 + 2) rfl rfl rfl hk101 (by decide) (mjRc8_1 hk101) ?_
          refine pG_many 1 (pc1 := 52) (L1 := [some (.ref a0), some (.int p0), some (.int p1), some (.int p2)]) (st1 := [.ref a0, .ref (a0 + 2)]) (M1 := mjTo Z109) (fun _ _ => rfl) ?_
          refine pG_getI (ci := 8) (f := 7) rfl rfl (Or.inl rfl) hk101 (by decide) ?_
          refine pG_many 1 (pc1 := 56) (L1 := [some (.ref a0), some (.int p0), some (.int p1), some (.int p2)]) (st1 := [.int p1, .int (Z109.1 a0 7), .ref (a0 + 2)]) (M1 := mjTo Z109) (fun _ _ => rfl) ?_
          have hk110 : mjIs (a0 + 2) 211 13 = true := by
            by_cases q9 : mjIs (a0 + 2) 211 13 = true
            · exact q9
            · rw [if_neg q9] at h; cases h
          rw [if_pos hk110] at h
          have hk111 : mjIn (Z109.1 a0 7) (mjLay (a0 + 2)).2 = true := by
            by_cases q9 : mjIn (Z109.1 a0 7) (mjLay (a0 + 2)).2 = true
            · exact q9
            · rw [if_neg q9] at h; cases h
          rw [if_pos hk111] at h
          refine pG_ias rfl hk110 hk111 (?_ : pG 48 57 [some (.ref a0), some (.int p0), some (.int p1), some (.int p2)] [] (mjTo (zSi Z109 (a0 + 2) (mjIx (Z109.1 a0 7)) p1)) _)
          rw [mjLet] at h
          generalize zSi Z109 (a0 + 2) (mjIx (Z109.1 a0 7)) p1 = Z112 at h ⊢
          refine pG_many 1 (pc1 := 58) (L1 := [some (.ref a0), some (.int p0), some (.int p1), some (.int p2)]) (st1 := [.ref a0]) (M1 := mjTo Z112) (fun _ _ => rfl) ?_
          refine pG_getR (ci := 8) (f := 2) (b := a0 + 3) rfl rfl rfl hk101 (by decide) (mjRc8_2 hk101) ?_
          refine pG_many 1 (pc1 := 62) (L1 := [some (.ref a0), some (.int p0), some (.int p1), some (.int p2)]) (st1 := [.ref a0, .ref (a0 + 3)]) (M1 := mjTo Z112) (fun _ _ => rfl) ?_
          refine pG_getI (ci := 8) (f := 7) rfl rfl (Or.inl rfl) hk101 (by decide) ?_
          refine pG_many 1 (pc1 := 66) (L1 := [some (.ref a0), some (.int p0), some (.int p1), some (.int p2)]) (st1 := [.int p2, .int (Z112.1 a0 7), .ref (a0 + 3)]) (M1 := mjTo Z112) (fun _ _ => rfl) ?_
          have hk113 : mjIs (a0 + 3) 211 13 = true := by
            by_cases q9 : mjIs (a0 + 3) 211 13 = true
            · exact q9
            · rw [if_neg q9] at h; cases h
          rw [if_pos hk113] at h
          have hk114 : mjIn (Z112.1 a0 7) (mjLay (a0 + 3)).2 = true := by
            by_cases q9 : mjIn (Z112.1 a0 7) (mjLay (a0 + 3)).2 = true
            · exact q9
            · rw [if_neg q9] at h; cases h
          rw [if_pos hk114] at h
          refine pG_ias rfl hk113 hk114 (?_ : pG 48 67 [some (.ref a0), some (.int p0), some (.int p1), some (.int p2)] [] (mjTo (zSi Z112 (a0 + 3) (mjIx (Z112.1 a0 7)) p2)) _)
          rw [mjLet] at h
          generalize zSi Z112 (a0 + 3) (mjIx (Z112.1 a0 7)) p2 = Z115 at h ⊢
          refine pG_many 2 (pc1 := 70) (L1 := [some (.ref a0), some (.int p0), some (.int p1), some (.int p2)]) (st1 := [.int 7, .int p0]) (M1 := mjTo Z115) (fun _ _ => rfl) ?_
          by_cases hc116 : mjCmp .lt p0 7 = true
          · rw [if_pos hc116] at h
            refine pG_cmt (t := 110) rfl rfl hc116 ?_
            refine pG_many 2 (pc1 := 112) (L1 := [some (.ref a0), some (.int p0), some (.int p1), some (.int p2)]) (st1 := [.ref a0, .ref a0]) (M1 := mjTo Z115) (fun _ _ => rfl) ?_
            refine pG_getI (ci := 8) (f := 7) rfl rfl (Or.inl rfl) hk101 (by decide) ?_
            refine pG_many 2 (pc1 := 117) (L1 := [some (.ref a0), some (.int p0), some (.int p1), some (.int p2)]) (st1 := [.int ((Z115.1 a0 7) + 1), .ref a0]) (M1 := mjTo Z115) (fun _ _ => rfl) ?_
            refine pG_putI (ci := 8) (f := 7) rfl rfl rfl rfl hk101 (by decide) ?_
            rw [mjLet] at h
            generalize zSi Z115 a0 7 ((Z115.1 a0 7) + 1) = Z117 at h ⊢
            simp only [Option.some.injEq, Prod.mk.injEq] at h
            obtain ⟨-, rfl⟩ := h
            exact pG_ret (r := none) rfl ⟨rfl, rfl⟩
          · rw [if_neg hc116] at h
            refine pG_cmf (t := 110) rfl rfl hc116 ?_
            refine pG_many 2 (pc1 := 76) (L1 := [some (.ref a0), some (.int p0), some (.int p1), some (.int p2)]) (st1 := [.int 9, .int p0]) (M1 := mjTo Z115) (fun _ _ => rfl) ?_
            by_cases hc118 : mjCmp .gt p0 9 = true
            · rw [if_pos hc118] at h
              refine pG_cmt (t := 110) rfl rfl hc118 ?_
              refine pG_many 2 (pc1 := 112) (L1 := [some (.ref a0), some (.int p0), some (.int p1), some (.int p2)]) (st1 := [.ref a0, .ref a0]) (M1 := mjTo Z115) (fun _ _ => rfl) ?_
              refine pG_getI (ci := 8) (f := 7) rfl rfl (Or.inl rfl) hk101 (by decide) ?_
              refine pG_many 2 (pc1 := 117) (L1 := [some (.ref a0), some (.int p0), some (.int p1), some (.int p2)]) (st1 := [.int ((Z115.1 a0 7) + 1), .ref a0]) (M1 := mjTo Z115) (fun _ _ => rfl) ?_
              refine pG_putI (ci := 8) (f := 7) rfl rfl rfl rfl hk101 (by decide) ?_
              rw [mjLet] at h
              generalize zSi Z115 a0 7 ((Z115.1 a0 7) + 1) = Z119 at h ⊢
              simp only [Option.some.injEq, Prod.mk.injEq] at h
              obtain ⟨-, rfl⟩ := h
              exact pG_ret (r := none) rfl ⟨rfl, rfl⟩
            · rw [if_neg hc118] at h
              refine pG_cmf (t := 110) rfl rfl hc118 ?_
              refine pG_many 1 (pc1 := 80) (L1 := [some (.ref a0), some (.int p0), some (.int p1), some (.int p2)]) (st1 := [.ref a0]) (M1 := mjTo Z115) (fun _ _ => rfl) ?_
              refine pG_getR (ci := 8) (f := 1) (b := a0 + 2) rfl rfl rfl hk101 (by decide) (mjRc8_1 hk101) ?_
              refine pG_many 1 (pc1 := 84) (L1 := [some (.ref a0), some (.int p0), some (.int p1), some (.int p2)]) (st1 := [.ref a0, .ref (a0 + 2)]) (M1 := mjTo Z115) (fun _ _ => rfl) ?_
              refine pG_getI (ci := 8) (f := 7) rfl rfl (Or.inl rfl) hk101 (by decide) ?_
              refine pG_many 1 (pc1 := 88) (L1 := [some (.ref a0), some (.int p0), some (.int p1), some (.int p2)]) (st1 := [.ref a0, .int (Z115.1 a0 7), .ref (a0 + 2)]) (M1 := mjTo Z115) (fun _ _ => rfl) ?_
              refine pG_getR (ci := 8) (f := 5) (b := a0 + 6) rfl rfl rfl hk101 (by decide) (mjRc8_5 hk101) ?_
              refine pG_many 1 (pc1 := 92) (L1 := [some (.ref a0), some (.int p0), some (.int p1), some (.int p2)]) (st1 := [.ref a0, .ref (a0 + 6), .int (Z115.1 a0 7), .ref (a0 + 2)]) (M1 := mjTo Z115) (fun _ _ => rfl) ?_
              refine pG_getI (ci := 8) (f := 6) rfl rfl (Or.inl rfl) hk101 (by decide) ?_
              have hk120 : mjIn (Z115.1 a0 6) (mjLay (a0 + 6)).2 = true := by
                by_cases q9 : mjIn (Z115.1 a0 6) (mjLay (a0 + 6)).2 = true
                · exact q9
                · rw [if_neg q9] at h; cases h
              rw [if_pos hk120] at h
              refine pG_ial rfl hk105 hk120 ?_
              have hk121 : mjIn (Z115.1 a0 7) (mjLay (a0 + 2)).2 = true := by
                by_cases q9 : mjIn (Z115.1 a0 7) (mjLay (a0 + 2)).2 = true
                · exact q9
                · rw [if_neg q9] at h; cases h
              rw [if_pos hk121] at h
              refine pG_ias rfl hk110 hk121 (?_ : pG 48 97 [some (.ref a0), some (.int p0), some (.int p1), some (.int p2)] [] (mjTo (zSi Z115 (a0 + 2) (mjIx (Z115.1 a0 7)) (Z115.1 (a0 + 6) (mjIx (Z115.1 a0 6))))) _)
              rw [mjLet] at h
              generalize zSi Z115 (a0 + 2) (mjIx (Z115.1 a0 7)) (Z115.1 (a0 + 6) (mjIx (Z115.1 a0 6))) = Z122 at h ⊢
              refine pG_many 1 (pc1 := 98) (L1 := [some (.ref a0), some (.int p0), some (.int p1), some (.int p2)]) (st1 := [.ref a0]) (M1 := mjTo Z122) (fun _ _ => rfl) ?_
              refine pG_getR (ci := 8) (f := 5) (b := a0 + 6) rfl rfl rfl hk101 (by decide) (mjRc8_5 hk101) ?_
              refine pG_many 1 (pc1 := 102) (L1 := [some (.ref a0), some (.int p0), some (.int p1), some (.int p2)]) (st1 := [.ref a0, .ref (a0 + 6)]) (M1 := mjTo Z122) (fun _ _ => rfl) ?_
              refine pG_getI (ci := 8) (f := 6) rfl rfl (Or.inl rfl) hk101 (by decide) ?_
              refine pG_many 1 (pc1 := 106) (L1 := [some (.ref a0), some (.int p0), some (.int p1), some (.int p2)]) (st1 := [.int (Z122.1 a0 6), .ref (a0 + 6), .int (Z122.1 a0 6), .ref (a0 + 6)]) (M1 := mjTo Z122) (fun _ _ => rfl) ?_
              have hk123 : mjIn (Z122.1 a0 6) (mjLay (a0 + 6)).2 = true := by
                by_cases q9 : mjIn (Z122.1 a0 6) (mjLay (a0 + 6)).2 = true
                · exact q9
                · rw [if_neg q9] at h; cases h
              rw [if_pos hk123] at h
              refine pG_ial rfl hk105 hk123 ?_
              refine pG_many 2 (pc1 := 109) (L1 := [some (.ref a0), some (.int p0), some (.int p1), some (.int p2)]) (st1 := [.int ((Z122.1 (a0 + 6) (mjIx (Z122.1 a0 6))) + 1), .int (Z122.1 a0 6), .ref (a0 + 6)]) (M1 := mjTo Z122) (fun _ _ => rfl) ?_
              refine pG_ias rfl hk105 hk123 (?_ : pG 48 110 [some (.ref a0), some (.int p0), some (.int p1), some (.int p2)] [] (mjTo (zSi Z122 (a0 + 6) (mjIx (Z122.1 a0 6)) ((Z122.1 (a0 + 6) (mjIx (Z122.1 a0 6))) + 1))) _)
              rw [mjLet] at h
              generalize zSi Z122 (a0 + 6) (mjIx (Z122.1 a0 6)) ((Z122.1 (a0 + 6) (mjIx (Z122.1 a0 6))) + 1) = Z124 at h ⊢
              refine pG_many 2 (pc1 := 112) (L1 := [some (.ref a0), some (.int p0), some (.int p1), some (.int p2)]) (st1 := [.ref a0, .ref a0]) (M1 := mjTo Z124) (fun _ _ => rfl) ?_
              refine pG_getI (ci := 8) (f := 7) rfl rfl (Or.inl rfl) hk101 (by decide) ?_
              refine pG_many 2 (pc1 := 117) (L1 := [some (.ref a0), some (.int p0), some (.int p1), some (.int p2)]) (st1 := [.int ((Z124.1 a0 7) + 1), .ref a0]) (M1 := mjTo Z124) (fun _ _ => rfl) ?_
              refine pG_putI (ci := 8) (f := 7) rfl rfl rfl rfl hk101 (by decide) ?_
              rw [mjLet] at h
              generalize zSi Z124 a0 7 ((Z124.1 a0 7) + 1) = Z125 at h ⊢
              simp only [Option.some.injEq, Prod.mk.injEq] at h
              obtain ⟨-, rfl⟩ := h
              exact pG_ret (r := none) rfl ⟨rfl, rfl⟩
        · rw [if_neg hc106] at h
          refine pG_cmf (t := 37) rfl rfl hc106 ?_
          simp only [Option.some.injEq, Prod.mk.injEq] at h
          obtain ⟨-, rfl⟩ := h
          exact pG_ret (r := none) rfl ⟨rfl, rfl⟩
def f49_reduce_j67 (R : Nat → Int32 → mjZt → Option (Unit × mjZt)) (x1 : Nat) (x2 : Int32) (x3 : Int32) (Z : mjZt) : Option (Unit × mjZt) :=
  if mjIn (Z.1 185 6) 64 = true then
  if mjIs x1 211 8 = true then
  mjBd (f48_put x1 x3 0 (Z.1 187 (mjIx (Z.1 185 6))) Z) fun _ Z112 =>
  R x1 x2 Z112
  else none
  else none
theorem f49_reduce_j67_ok (R : Nat → Int32 → mjZt → Option (Unit × mjZt)) (hR : ∀ (x1 : Nat) (x2 : Int32) (d3 : Option Value) (Z : mjZt) (v9 : Unit) (Z9 : mjZt), R x1 x2 Z = some (v9, Z9) → pG 49 0 [some (.ref 185), some (.ref x1), some (.int x2), d3] [] (mjTo Z) (fun r M1 => r = none ∧ M1 = mjTo Z9)) (x1 : Nat) (x2 : Int32) (x3 : Int32) (Z : mjZt) (v9 : Unit) (Z9 : mjZt) (h : f49_reduce_j67 R x1 x2 x3 Z = some (v9, Z9)) : pG 49 67 [some (.ref 185), some (.ref x1), some (.int x2), some (.int x3)] [] (mjTo Z) (fun r M1 => r = none ∧ M1 = mjTo Z9) := by
  unfold f49_reduce_j67 at h
  refine pG_many 4 (pc1 := 71) (L1 := [some (.ref 185), some (.ref x1), some (.int x2), some (.int x3)]) (st1 := [.ref 185, .int 0, .int x3, .ref x1]) (M1 := mjTo Z) (fun _ _ => rfl) ?_
  refine pG_getR (ci := 3) (f := 5) (b := 187) rfl rfl rfl (by rfl) (by decide) rfl ?_
  refine pG_many 1 (pc1 := 75) (L1 := [some (.ref 185), some (.ref x1), some (.int x2), some (.int x3)]) (st1 := [.ref 185, .ref 187, .int 0, .int x3, .ref x1]) (M1 := mjTo Z) (fun _ _ => rfl) ?_
  refine pG_getI (ci := 3) (f := 6) rfl rfl (Or.inl rfl) (by rfl) (by decide) ?_
  have hk108 : mjIn (Z.1 185 6) 64 = true := by
    by_cases q9 : mjIn (Z.1 185 6) 64 = true
    · exact q9
    · rw [if_neg q9] at h; cases h
  rw [if_pos hk108] at h
  refine pG_ial rfl (by rfl) hk108 ?_
  have hk109 : mjIs x1 211 8 = true := by
    by_cases q9 : mjIs x1 211 8 = true
    · exact q9
    · rw [if_neg q9] at h; cases h
  rw [if_pos hk109] at h
  cases hq110 : f48_put x1 x3 0 (Z.1 187 (mjIx (Z.1 185 6))) Z with
  | none => rw [hq110] at h; cases h
  | some w =>
    obtain ⟨v111, Z112⟩ := w
    rw [hq110, mjBd_some] at h
    refine pG_callV (k2 := 48) (As := [.ref x1, .int x3, .int 0, .int (Z.1 187 (mjIx (Z.1 185 6)))]) (rest := []) rfl rfl rfl rfl rfl (mjRcv_is hk109 (by decide)) (by decide) (by decide) (f48_put_ok hq110) ?_
    rintro r9 M9 ⟨rfl, rfl⟩
    show pG 49 82 [some (.ref 185), some (.ref x1), some (.int x2), some (.int x3)] [] (mjTo Z112) _
    refine pG_many 1 (pc1 := 0) (L1 := [some (.ref 185), some (.ref x1), some (.int x2), some (.int x3)]) (st1 := []) (M1 := mjTo Z112) (fun _ _ => rfl) ?_
    exact hR x1 x2 (some (.int x3)) Z112 v9 Z9 h
def f49_reduce_h0 : Nat → Nat → Int32 → mjZt → Option (Unit × mjZt)
  | 0, _, _, _ => none
  | n + 1, x1, x2, Z =>
    if mjCmp .le (Z.1 185 6) 0 = true then
      some ((), Z)
    else
      if mjCmp .gt (Z.1 185 6) 64 = true then
        some ((), Z)
      else
        if mjIn ((Z.1 185 6) - 1) 64 = true then
        if mjCmp .lt (Z.1 186 (mjIx ((Z.1 185 6) - 1))) x2 = true then
          some ((), Z)
        else
          mjLet (zSi Z 185 6 ((Z.1 185 6) - 1)) fun Z105 =>
          if mjIn (Z105.1 185 6) 64 = true then
          if mjCmp .ne (Z105.1 186 (mjIx (Z105.1 185 6))) 6 = true then
            f49_reduce_j67 (f49_reduce_h0 n) x1 x2 (Z105.1 186 (mjIx (Z105.1 185 6))) Z105
          else
            mjLet (zSi Z105 185 1 ((Z105.1 185 1) - 1)) fun Z113 =>
            f49_reduce_j67 (f49_reduce_h0 n) x1 x2 (Z105.1 186 (mjIx (Z105.1 185 6))) Z113
          else none
        else none
theorem f49_reduce_h0_ok : ∀ (n : Nat) (x1 : Nat) (x2 : Int32) (d3 : Option Value) (Z : mjZt) (v9 : Unit) (Z9 : mjZt), f49_reduce_h0 n x1 x2 Z = some (v9, Z9) → pG 49 0 [some (.ref 185), some (.ref x1), some (.int x2), d3] [] (mjTo Z) (fun r M1 => r = none ∧ M1 = mjTo Z9)
  | 0, x1, x2, d3, Z, v9, Z9, h => by rw [f49_reduce_h0] at h; cases h
  | n + 1, x1, x2, d3, Z, v9, Z9, h => by
      rw [f49_reduce_h0] at h
      refine pG_many 1 (pc1 := 1) (L1 := [some (.ref 185), some (.ref x1), some (.int x2), d3]) (st1 := [.ref 185]) (M1 := mjTo Z) (fun _ _ => rfl) ?_
      refine pG_getI (ci := 3) (f := 6) rfl rfl (Or.inl rfl) (by rfl) (by decide) ?_
      by_cases hc101 : mjCmp .le (Z.1 185 6) 0 = true
      · rw [if_pos hc101] at h
        refine pG_ift (t := 85) rfl rfl hc101 ?_
        simp only [Option.some.injEq, Prod.mk.injEq] at h
        obtain ⟨-, rfl⟩ := h
        exact pG_ret (r := none) rfl ⟨rfl, rfl⟩
      · rw [if_neg hc101] at h
        refine pG_iff (t := 85) rfl rfl hc101 ?_
        refine pG_many 1 (pc1 := 8) (L1 := [some (.ref 185), some (.ref x1), some (.int x2), d3]) (st1 := [.ref 185]) (M1 := mjTo Z) (fun _ _ => rfl) ?_
        refine pG_getI (ci := 3) (f := 6) rfl rfl (Or.inl rfl) (by rfl) (by decide) ?_
        refine pG_many 1 (pc1 := 13) (L1 := [some (.ref 185), some (.ref x1), some (.int x2), d3]) (st1 := [.int 64, .int (Z.1 185 6)]) (M1 := mjTo Z) (fun _ _ => rfl) ?_
        by_cases hc102 : mjCmp .gt (Z.1 185 6) 64 = true
        · rw [if_pos hc102] at h
          refine pG_cmt (t := 85) rfl rfl hc102 ?_
          simp only [Option.some.injEq, Prod.mk.injEq] at h
          obtain ⟨-, rfl⟩ := h
          exact pG_ret (r := none) rfl ⟨rfl, rfl⟩
        · rw [if_neg hc102] at h
          refine pG_cmf (t := 85) rfl rfl hc102 ?_
          refine pG_many 1 (pc1 := 17) (L1 := [some (.ref 185), some (.ref x1), some (.int x2), d3]) (st1 := [.ref 185]) (M1 := mjTo Z) (fun _ _ => rfl) ?_
          refine pG_getR (ci := 3) (f := 4) (b := 186) rfl rfl rfl (by rfl) (by decide) rfl ?_
          refine pG_many 1 (pc1 := 21) (L1 := [some (.ref 185), some (.ref x1), some (.int x2), d3]) (st1 := [.ref 185, .ref 186]) (M1 := mjTo Z) (fun _ _ => rfl) ?_
          refine pG_getI (ci := 3) (f := 6) rfl rfl (Or.inl rfl) (by rfl) (by decide) ?_
          refine pG_many 2 (pc1 := 26) (L1 := [some (.ref 185), some (.ref x1), some (.int x2), d3]) (st1 := [.int ((Z.1 185 6) - 1), .ref 186]) (M1 := mjTo Z) (fun _ _ => rfl) ?_
          have hk103 : mjIn ((Z.1 185 6) - 1) 64 = true := by
            by_cases q9 : mjIn ((Z.1 185 6) - 1) 64 = true
            · exact q9
            · rw [if_neg q9] at h; cases h
          rw [if_pos hk103] at h
          refine pG_ial rfl (by rfl) hk103 ?_
          refine pG_many 1 (pc1 := 28) (L1 := [some (.ref 185), some (.ref x1), some (.int x2), d3]) (st1 := [.int x2, .int (Z.1 186 (mjIx ((Z.1 185 6) - 1)))]) (M1 := mjTo Z) (fun _ _ => rfl) ?_
          by_cases hc104 : mjCmp .lt (Z.1 186 (mjIx ((Z.1 185 6) - 1))) x2 = true
          · rw [if_pos hc104] at h
            refine pG_cmt (t := 85) rfl rfl hc104 ?_
            simp only [Option.some.injEq, Prod.mk.injEq] at h
            obtain ⟨-, rfl⟩ := h
            exact pG_ret (r := none) rfl ⟨rfl, rfl⟩
          · rw [if_neg hc104] at h
            refine pG_cmf (t := 85) rfl rfl hc104 ?_
            refine pG_many 2 (pc1 := 33) (L1 := [some (.ref 185), some (.ref x1), some (.int x2), d3]) (st1 := [.ref 185, .ref 185]) (M1 := mjTo Z) (fun _ _ => rfl) ?_
            refine pG_getI (ci := 3) (f := 6) rfl rfl (Or.inl rfl) (by rfl) (by decide) ?_
            refine pG_many 2 (pc1 := 38) (L1 := [some (.ref 185), some (.ref x1), some (.int x2), d3]) (st1 := [.int ((Z.1 185 6) - 1), .ref 185]) (M1 := mjTo Z) (fun _ _ => rfl) ?_
            refine pG_putI (ci := 3) (f := 6) rfl rfl rfl rfl (by rfl) (by decide) ?_
            rw [mjLet] at h
            generalize zSi Z 185 6 ((Z.1 185 6) - 1) = Z105 at h ⊢
            refine pG_many 1 (pc1 := 42) (L1 := [some (.ref 185), some (.ref x1), some (.int x2), d3]) (st1 := [.ref 185]) (M1 := mjTo Z105) (fun _ _ => rfl) ?_
            refine pG_getR (ci := 3) (f := 4) (b := 186) rfl rfl rfl (by rfl) (by decide) rfl ?_
            refine pG_many 1 (pc1 := 46) (L1 := [some (.ref 185), some (.ref x1), some (.int x2), d3]) (st1 := [.ref 185, .ref 186]) (M1 := mjTo Z105) (fun _ _ => rfl) ?_
            refine pG_getI (ci := 3) (f := 6) rfl rfl (Or.inl rfl) (by rfl) (by decide) ?_
            have hk106 : mjIn (Z105.1 185 6) 64 = true := by
              by_cases q9 : mjIn (Z105.1 185 6) 64 = true
              · exact q9
              · rw [if_neg q9] at h; cases h
            rw [if_pos hk106] at h
            refine pG_ial rfl (by rfl) hk106 ?_
            refine pG_many 3 (pc1 := 54) (L1 := [some (.ref 185), some (.ref x1), some (.int x2), some (.int (Z105.1 186 (mjIx (Z105.1 185 6))))]) (st1 := [.int 6, .int (Z105.1 186 (mjIx (Z105.1 185 6)))]) (M1 := mjTo Z105) (fun _ _ => rfl) ?_
            by_cases hc107 : mjCmp .ne (Z105.1 186 (mjIx (Z105.1 185 6))) 6 = true
            · rw [if_pos hc107] at h
              refine pG_cmt (t := 67) rfl rfl hc107 ?_
              exact f49_reduce_j67_ok (f49_reduce_h0 n) (fun x1 x2 d3 Z v9 Z9 h => f49_reduce_h0_ok n x1 x2 d3 Z v9 Z9 h) x1 x2 (Z105.1 186 (mjIx (Z105.1 185 6))) Z105 v9 Z9 h
            · rw [if_neg hc107] at h
              refine pG_cmf (t := 67) rfl rfl hc107 ?_
              refine pG_many 2 (pc1 := 59) (L1 := [some (.ref 185), some (.ref x1), some (.int x2), some (.int (Z105.1 186 (mjIx (Z105.1 185 6))))]) (st1 := [.ref 185, .ref 185]) (M1 := mjTo Z105) (fun _ _ => rfl) ?_
              refine pG_getI (ci := 3) (f := 1) rfl rfl (Or.inl rfl) (by rfl) (by decide) ?_
              refine pG_many 2 (pc1 := 64) (L1 := [some (.ref 185), some (.ref x1), some (.int x2), some (.int (Z105.1 186 (mjIx (Z105.1 185 6))))]) (st1 := [.int ((Z105.1 185 1) - 1), .ref 185]) (M1 := mjTo Z105) (fun _ _ => rfl) ?_
              refine pG_putI (ci := 3) (f := 1) rfl rfl rfl rfl (by rfl) (by decide) ?_
              rw [mjLet] at h
              generalize zSi Z105 185 1 ((Z105.1 185 1) - 1) = Z113 at h ⊢
              exact f49_reduce_j67_ok (f49_reduce_h0 n) (fun x1 x2 d3 Z v9 Z9 h => f49_reduce_h0_ok n x1 x2 d3 Z v9 Z9 h) x1 x2 (Z105.1 186 (mjIx (Z105.1 185 6))) Z113 v9 Z9 h
def f49_reduce (p0 : Nat) (p1 : Int32) (Z : mjZt) : Option (Unit × mjZt) :=
  f49_reduce_h0 mjF p0 p1 Z
theorem f49_reduce_ok {p0 : Nat} {p1 : Int32} {Z : mjZt} {v9 : Unit} {Z9 : mjZt} (h : f49_reduce p0 p1 Z = some (v9, Z9)) : pG 49 0 (mjEnt [.ref 185, .ref p0, .int p1] (mjML 49)) [] (mjTo Z) (fun r M1 => r = none ∧ M1 = mjTo Z9) := by
  unfold f49_reduce at h
  show pG 49 0 [some (.ref 185), some (.ref p0), some (.int p1), none] [] (mjTo Z) _
  exact f49_reduce_h0_ok mjF p0 p1 none Z v9 Z9 h
def f328_coder (a0 : Nat) (Z : mjZt) : Option Int32 :=
  if mjCmp .eq 1 0 = true then
    some 1
  else
    if mjSid a0 = true then
    some 0
    else none
theorem f328_coder_ok {a0 : Nat} {Z : mjZt} {v9 : Int32} (h : f328_coder a0 Z = some v9) : pG 171 0 (mjEnt [.ref a0] (mjML 171)) [] (mjTo Z) (fun r M1 => r = some (.int v9) ∧ M1 = mjTo Z) := by
  unfold f328_coder at h
  show pG 171 0 [some (.ref a0)] [] (mjTo Z) _
  refine pG_many 1 (pc1 := 3) (L1 := [some (.ref a0)]) (st1 := [.int 1]) (M1 := mjTo Z) (fun _ _ => rfl) ?_
  by_cases hc101 : mjCmp .eq 1 0 = true
  · rw [if_pos hc101] at h
    refine pG_ift (t := 13) rfl rfl hc101 ?_
    refine pG_many 1 (pc1 := 14) (L1 := [some (.ref a0)]) (st1 := [.int 1]) (M1 := mjTo Z) (fun _ _ => rfl) ?_
    simp only [Option.some.injEq] at h
    subst h
    exact pG_ret (r := some (.int 1)) rfl ⟨rfl, rfl⟩
  · rw [if_neg hc101] at h
    refine pG_iff (t := 13) rfl rfl hc101 ?_
    refine pG_many 1 (pc1 := 7) (L1 := [some (.ref a0)]) (st1 := [.ref a0]) (M1 := mjTo Z) (fun _ _ => rfl) ?_
    have hk102 : mjSid a0 = true := by
      by_cases q9 : mjSid a0 = true
      · exact q9
      · rw [if_neg q9] at h; cases h
    rw [if_pos hk102] at h
    refine pG_getX15 rfl rfl hk102 ?_
    refine pG_many 1 (pc1 := 14) (L1 := [some (.ref a0)]) (st1 := [.int 0]) (M1 := mjTo Z) (fun _ _ => rfl) ?_
    simp only [Option.some.injEq] at h
    subst h
    exact pG_ret (r := some (.int 0)) rfl ⟨rfl, rfl⟩
def f327_length (a0 : Nat) (Z : mjZt) : Option Int32 :=
  if mjSid a0 = true then
  if mjSbd (a0 + 100000) = true then
  mjBp (f328_coder a0 Z) fun v104 =>
  some (((Int32.ofNat (mjTx0 ((a0 + 100000) - 1100000)).length) : Int32) >>> ((v104 : Int32) &&& 31))
  else none
  else none
theorem f327_length_ok {a0 : Nat} {Z : mjZt} {v9 : Int32} (h : f327_length a0 Z = some v9) : pG 170 0 (mjEnt [.ref a0] (mjML 170)) [] (mjTo Z) (fun r M1 => r = some (.int v9) ∧ M1 = mjTo Z) := by
  unfold f327_length at h
  show pG 170 0 [some (.ref a0)] [] (mjTo Z) _
  refine pG_many 1 (pc1 := 1) (L1 := [some (.ref a0)]) (st1 := [.ref a0]) (M1 := mjTo Z) (fun _ _ => rfl) ?_
  have hk101 : mjSid a0 = true := by
    by_cases q9 : mjSid a0 = true
    · exact q9
    · rw [if_neg q9] at h; cases h
  rw [if_pos hk101] at h
  refine pG_getX9 rfl rfl hk101 ?_
  have hk102 : mjSbd (a0 + 100000) = true := by
    by_cases q9 : mjSbd (a0 + 100000) = true
    · exact q9
    · rw [if_neg q9] at h; cases h
  rw [if_pos hk102] at h
  refine pG_blen rfl hk102 ?_
  refine pG_many 1 (pc1 := 6) (L1 := [some (.ref a0)]) (st1 := [.ref a0, .int (Int32.ofNat (mjTx0 ((a0 + 100000) - 1100000)).length)]) (M1 := mjTo Z) (fun _ _ => rfl) ?_
  cases hq103 : f328_coder a0 Z with
  | none => rw [hq103] at h; cases h
  | some v104 =>
    rw [hq103, mjBp_some] at h
    refine pG_callV (k2 := 171) (As := [.ref a0]) (rest := [.int (Int32.ofNat (mjTx0 ((a0 + 100000) - 1100000)).length)]) rfl rfl rfl rfl rfl (mjRcv_sid hk101 rfl) (by decide) (by decide) (f328_coder_ok hq103) ?_
    rintro r9 M9 ⟨rfl, rfl⟩
    show pG 170 9 [some (.ref a0)] [.int v104, .int (Int32.ofNat (mjTx0 ((a0 + 100000) - 1100000)).length)] (mjTo Z) _
    refine pG_many 1 (pc1 := 10) (L1 := [some (.ref a0)]) (st1 := [.int (((Int32.ofNat (mjTx0 ((a0 + 100000) - 1100000)).length) : Int32) >>> ((v104 : Int32) &&& 31))]) (M1 := mjTo Z) (fun _ _ => rfl) ?_
    simp only [Option.some.injEq] at h
    subst h
    exact pG_ret (r := some (.int (((Int32.ofNat (mjTx0 ((a0 + 100000) - 1100000)).length) : Int32) >>> ((v104 : Int32) &&& 31)))) rfl ⟨rfl, rfl⟩
def f330_isLatin1 (a0 : Nat) (Z : mjZt) : Option Int32 :=
  if mjCmp .eq 1 0 = true then
    some 0
  else
    if mjSid a0 = true then
    if mjCmp .ne 0 0 = true then
      some 0
    else
      some 1
    else none
theorem f330_isLatin1_ok {a0 : Nat} {Z : mjZt} {v9 : Int32} (h : f330_isLatin1 a0 Z = some v9) : pG 173 0 (mjEnt [.ref a0] (mjML 173)) [] (mjTo Z) (fun r M1 => r = some (.int v9) ∧ M1 = mjTo Z) := by
  unfold f330_isLatin1 at h
  show pG 173 0 [some (.ref a0)] [] (mjTo Z) _
  refine pG_many 1 (pc1 := 3) (L1 := [some (.ref a0)]) (st1 := [.int 1]) (M1 := mjTo Z) (fun _ _ => rfl) ?_
  by_cases hc101 : mjCmp .eq 1 0 = true
  · rw [if_pos hc101] at h
    refine pG_ift (t := 17) rfl rfl hc101 ?_
    refine pG_many 1 (pc1 := 18) (L1 := [some (.ref a0)]) (st1 := [.int 0]) (M1 := mjTo Z) (fun _ _ => rfl) ?_
    simp only [Option.some.injEq] at h
    subst h
    exact pG_ret (r := some (.int 0)) rfl ⟨rfl, rfl⟩
  · rw [if_neg hc101] at h
    refine pG_iff (t := 17) rfl rfl hc101 ?_
    refine pG_many 1 (pc1 := 7) (L1 := [some (.ref a0)]) (st1 := [.ref a0]) (M1 := mjTo Z) (fun _ _ => rfl) ?_
    have hk102 : mjSid a0 = true := by
      by_cases q9 : mjSid a0 = true
      · exact q9
      · rw [if_neg q9] at h; cases h
    rw [if_pos hk102] at h
    refine pG_getX15 rfl rfl hk102 ?_
    by_cases hc103 : mjCmp .ne 0 0 = true
    · rw [if_pos hc103] at h
      refine pG_ift (t := 17) rfl rfl hc103 ?_
      refine pG_many 1 (pc1 := 18) (L1 := [some (.ref a0)]) (st1 := [.int 0]) (M1 := mjTo Z) (fun _ _ => rfl) ?_
      simp only [Option.some.injEq] at h
      subst h
      exact pG_ret (r := some (.int 0)) rfl ⟨rfl, rfl⟩
    · rw [if_neg hc103] at h
      refine pG_iff (t := 17) rfl rfl hc103 ?_
      refine pG_many 2 (pc1 := 18) (L1 := [some (.ref a0)]) (st1 := [.int 1]) (M1 := mjTo Z) (fun _ _ => rfl) ?_
      simp only [Option.some.injEq] at h
      subst h
      exact pG_ret (r := some (.int 1)) rfl ⟨rfl, rfl⟩
def f331_charAt (p0 : Nat) (p1 : Int32) (Z : mjZt) : Option Int32 :=
  if mjSbd p0 = true then
  mjBp (f332_checkIndex p1 (Int32.ofNat (mjTx0 (p0 - 1100000)).length) Z) fun v103 =>
  if mjIn p1 (mjTx0 (p0 - 1100000)).length = true then
  if (((((mjTx0 (p0 - 1100000)).getD (mjIx p1) 0) &&& 255).toUInt32 % 65536).toInt32).toUInt32.toUInt16.toUInt32.toInt32 = ((((mjTx0 (p0 - 1100000)).getD (mjIx p1) 0) &&& 255).toUInt32 % 65536).toInt32 then
  some (((((mjTx0 (p0 - 1100000)).getD (mjIx p1) 0) &&& 255).toUInt32 % 65536).toInt32)
  else none
  else none
  else none
theorem f331_charAt_ok {p0 : Nat} {p1 : Int32} {Z : mjZt} {v9 : Int32} (h : f331_charAt p0 p1 Z = some v9) : pG 174 0 (mjEnt [.ref p0, .int p1] (mjML 174)) [] (mjTo Z) (fun r M1 => r = some (.int v9) ∧ M1 = mjTo Z) := by
  unfold f331_charAt at h
  show pG 174 0 [some (.ref p0), some (.int p1)] [] (mjTo Z) _
  refine pG_many 2 (pc1 := 2) (L1 := [some (.ref p0), some (.int p1)]) (st1 := [.ref p0, .int p1]) (M1 := mjTo Z) (fun _ _ => rfl) ?_
  have hk101 : mjSbd p0 = true := by
    by_cases q9 : mjSbd p0 = true
    · exact q9
    · rw [if_neg q9] at h; cases h
  rw [if_pos hk101] at h
  refine pG_blen rfl hk101 ?_
  cases hq102 : f332_checkIndex p1 (Int32.ofNat (mjTx0 (p0 - 1100000)).length) Z with
  | none => rw [hq102] at h; cases h
  | some v103 =>
    rw [hq102, mjBp_some] at h
    refine pG_call (k2 := 175) (As := [.int p1, .int (Int32.ofNat (mjTx0 (p0 - 1100000)).length)]) (rest := []) (fun _ _ => rfl) (by decide) (by decide) (f332_checkIndex_ok hq102) ?_
    rintro r9 M9 ⟨rfl, rfl⟩
    show pG 174 6 [some (.ref p0), some (.int p1)] [] (mjTo Z) _
    refine pG_many 2 (pc1 := 8) (L1 := [some (.ref p0), some (.int p1)]) (st1 := [.int p1, .ref p0]) (M1 := mjTo Z) (fun _ _ => rfl) ?_
    have hk105 : mjIn p1 (mjTx0 (p0 - 1100000)).length = true := by
      by_cases q9 : mjIn p1 (mjTx0 (p0 - 1100000)).length = true
      · exact q9
      · rw [if_neg q9] at h; cases h
    rw [if_pos hk105] at h
    refine pG_bbl rfl hk101 hk105 ?_
    refine pG_many 3 (pc1 := 14) (L1 := [some (.ref p0), some (.int p1)]) (st1 := [.int (((((mjTx0 (p0 - 1100000)).getD (mjIx p1) 0) &&& 255).toUInt32 % 65536).toInt32)]) (M1 := mjTo Z) (fun _ _ => rfl) ?_
    have hk106 : (((((mjTx0 (p0 - 1100000)).getD (mjIx p1) 0) &&& 255).toUInt32 % 65536).toInt32).toUInt32.toUInt16.toUInt32.toInt32 = ((((mjTx0 (p0 - 1100000)).getD (mjIx p1) 0) &&& 255).toUInt32 % 65536).toInt32 := by
      by_cases q9 : (((((mjTx0 (p0 - 1100000)).getD (mjIx p1) 0) &&& 255).toUInt32 % 65536).toInt32).toUInt32.toUInt16.toUInt32.toInt32 = ((((mjTx0 (p0 - 1100000)).getD (mjIx p1) 0) &&& 255).toUInt32 % 65536).toInt32
      · exact q9
      · rw [if_neg q9] at h; cases h
    rw [if_pos hk106] at h
    simp only [Option.some.injEq] at h
    subst h
    exact pG_ret (r := some (.int (((((mjTx0 (p0 - 1100000)).getD (mjIx p1) 0) &&& 255).toUInt32 % 65536).toInt32))) (mjRt1_c rfl rfl hk106) ⟨rfl, rfl⟩
def f329_charAt (a0 : Nat) (p0 : Int32) (Z : mjZt) : Option Int32 :=
  if mjSid a0 = true then
  mjBp (f330_isLatin1 a0 Z) fun v103 =>
  if mjCmp .eq v103 0 = true then
    none
  else
    mjBp (f331_charAt (a0 + 100000) p0 Z) fun v107 =>
    if v107.toUInt32.toUInt16.toUInt32.toInt32 = v107 then
    some v107
    else none
  else none
theorem f329_charAt_ok {a0 : Nat} {p0 : Int32} {Z : mjZt} {v9 : Int32} (h : f329_charAt a0 p0 Z = some v9) : pG 172 0 (mjEnt [.ref a0, .int p0] (mjML 172)) [] (mjTo Z) (fun r M1 => r = some (.int v9) ∧ M1 = mjTo Z) := by
  unfold f329_charAt at h
  show pG 172 0 [some (.ref a0), some (.int p0)] [] (mjTo Z) _
  refine pG_many 1 (pc1 := 1) (L1 := [some (.ref a0), some (.int p0)]) (st1 := [.ref a0]) (M1 := mjTo Z) (fun _ _ => rfl) ?_
  have hk101 : mjSid a0 = true := by
    by_cases q9 : mjSid a0 = true
    · exact q9
    · rw [if_neg q9] at h; cases h
  rw [if_pos hk101] at h
  cases hq102 : f330_isLatin1 a0 Z with
  | none => rw [hq102] at h; cases h
  | some v103 =>
    rw [hq102, mjBp_some] at h
    refine pG_callV (k2 := 173) (As := [.ref a0]) (rest := []) rfl rfl rfl rfl rfl (mjRcv_sid hk101 rfl) (by decide) (by decide) (f330_isLatin1_ok hq102) ?_
    rintro r9 M9 ⟨rfl, rfl⟩
    show pG 172 4 [some (.ref a0), some (.int p0)] [.int v103] (mjTo Z) _
    by_cases hc105 : mjCmp .eq v103 0 = true
    · rw [if_pos hc105] at h
      refine pG_ift (t := 16) rfl rfl hc105 ?_
      refine pG_many 1 (pc1 := 17) (L1 := [some (.ref a0), some (.int p0)]) (st1 := [.ref a0]) (M1 := mjTo Z) (fun _ _ => rfl) ?_
      refine pG_getX9 rfl rfl hk101 ?_
      refine pG_many 1 (pc1 := 21) (L1 := [some (.ref a0), some (.int p0)]) (st1 := [.int p0, .ref (a0 + 100000)]) (M1 := mjTo Z) (fun _ _ => rfl) ?_
      cases h
    · rw [if_neg hc105] at h
      refine pG_iff (t := 16) rfl rfl hc105 ?_
      refine pG_many 1 (pc1 := 8) (L1 := [some (.ref a0), some (.int p0)]) (st1 := [.ref a0]) (M1 := mjTo Z) (fun _ _ => rfl) ?_
      refine pG_getX9 rfl rfl hk101 ?_
      refine pG_many 1 (pc1 := 12) (L1 := [some (.ref a0), some (.int p0)]) (st1 := [.int p0, .ref (a0 + 100000)]) (M1 := mjTo Z) (fun _ _ => rfl) ?_
      cases hq106 : f331_charAt (a0 + 100000) p0 Z with
      | none => rw [hq106] at h; cases h
      | some v107 =>
        rw [hq106, mjBp_some] at h
        refine pG_call (k2 := 174) (As := [.ref (a0 + 100000), .int p0]) (rest := []) (fun _ _ => rfl) (by decide) (by decide) (f331_charAt_ok hq106) ?_
        rintro r9 M9 ⟨rfl, rfl⟩
        show pG 172 15 [some (.ref a0), some (.int p0)] [.int v107] (mjTo Z) _
        have hk109 : v107.toUInt32.toUInt16.toUInt32.toInt32 = v107 := by
          by_cases q9 : v107.toUInt32.toUInt16.toUInt32.toInt32 = v107
          · exact q9
          · rw [if_neg q9] at h; cases h
        rw [if_pos hk109] at h
        simp only [Option.some.injEq] at h
        subst h
        exact pG_ret (r := some (.int v107)) (mjRt1_c rfl rfl hk109) ⟨rfl, rfl⟩
def f50_packed_h5 : Nat → Nat → Int32 → Int64 → Int32 → mjZt → Option Int64
  | 0, _, _, _, _, _ => none
  | n + 1, x0, x1, x2, x4, Z =>
    if mjCmp .ge x4 8 = true then
      some x2
    else
      if mjSid x0 = true then
      mjBp (f327_length x0 Z) fun v104 =>
      if mjCmp .ge (x1 + x4) v104 = true then
        some x2
      else
        mjBp (f329_charAt x0 (x1 + x4) Z) fun v108 =>
        if mjCmp .eq v108 32 = true then
          f50_packed_h5 n x0 x1 x2 (x4 + 1) Z
        else
          mjLet (x2 ||| ((Int32.toInt64 ((v108 - 97) + 1)) <<< (Int32.toInt64 (5 * x4) &&& 63)) : Int64) fun x_111 =>
          f50_packed_h5 n x0 x1 x_111 (x4 + 1) Z
      else none
theorem f50_packed_h5_ok : ∀ (n : Nat) (x0 : Nat) (x1 : Int32) (x2 : Int64) (x4 : Int32) (d3 d5 : Option Value) (Z : mjZt) (v9 : Int64), f50_packed_h5 n x0 x1 x2 x4 Z = some v9 → pG 50 5 [some (.ref x0), some (.int x1), some (.long x2), d3, some (.int x4), d5] [] (mjTo Z) (fun r M1 => r = some (.long v9) ∧ M1 = mjTo Z)
  | 0, x0, x1, x2, x4, d3, d5, Z, v9, h => by rw [f50_packed_h5] at h; cases h
  | n + 1, x0, x1, x2, x4, d3, d5, Z, v9, h => by
      rw [f50_packed_h5] at h
      refine pG_many 2 (pc1 := 9) (L1 := [some (.ref x0), some (.int x1), some (.long x2), d3, some (.int x4), d5]) (st1 := [.int 8, .int x4]) (M1 := mjTo Z) (fun _ _ => rfl) ?_
      by_cases hc101 : mjCmp .ge x4 8 = true
      · rw [if_pos hc101] at h
        refine pG_cmt (t := 62) rfl rfl hc101 ?_
        refine pG_many 1 (pc1 := 63) (L1 := [some (.ref x0), some (.int x1), some (.long x2), d3, some (.int x4), d5]) (st1 := [.long x2]) (M1 := mjTo Z) (fun _ _ => rfl) ?_
        simp only [Option.some.injEq] at h
        subst h
        exact pG_ret (r := some (.long x2)) rfl ⟨rfl, rfl⟩
      · rw [if_neg hc101] at h
        refine pG_cmf (t := 62) rfl rfl hc101 ?_
        refine pG_many 4 (pc1 := 17) (L1 := [some (.ref x0), some (.int x1), some (.long x2), d3, some (.int x4), d5]) (st1 := [.ref x0, .int (x1 + x4)]) (M1 := mjTo Z) (fun _ _ => rfl) ?_
        have hk102 : mjSid x0 = true := by
          by_cases q9 : mjSid x0 = true
          · exact q9
          · rw [if_neg q9] at h; cases h
        rw [if_pos hk102] at h
        cases hq103 : f327_length x0 Z with
        | none => rw [hq103] at h; cases h
        | some v104 =>
          rw [hq103, mjBp_some] at h
          refine pG_callV (k2 := 170) (As := [.ref x0]) (rest := [.int (x1 + x4)]) rfl rfl rfl rfl rfl (mjRcv_sid hk102 rfl) (by decide) (by decide) (f327_length_ok hq103) ?_
          rintro r9 M9 ⟨rfl, rfl⟩
          show pG 50 20 [some (.ref x0), some (.int x1), some (.long x2), d3, some (.int x4), d5] [.int v104, .int (x1 + x4)] (mjTo Z) _
          by_cases hc106 : mjCmp .ge (x1 + x4) v104 = true
          · rw [if_pos hc106] at h
            refine pG_cmt (t := 62) rfl rfl hc106 ?_
            refine pG_many 1 (pc1 := 63) (L1 := [some (.ref x0), some (.int x1), some (.long x2), d3, some (.int x4), d5]) (st1 := [.long x2]) (M1 := mjTo Z) (fun _ _ => rfl) ?_
            simp only [Option.some.injEq] at h
            subst h
            exact pG_ret (r := some (.long x2)) rfl ⟨rfl, rfl⟩
          · rw [if_neg hc106] at h
            refine pG_cmf (t := 62) rfl rfl hc106 ?_
            refine pG_many 4 (pc1 := 28) (L1 := [some (.ref x0), some (.int x1), some (.long x2), d3, some (.int x4), d5]) (st1 := [.int (x1 + x4), .ref x0]) (M1 := mjTo Z) (fun _ _ => rfl) ?_
            cases hq107 : f329_charAt x0 (x1 + x4) Z with
            | none => rw [hq107] at h; cases h
            | some v108 =>
              rw [hq107, mjBp_some] at h
              refine pG_callV (k2 := 172) (As := [.ref x0, .int (x1 + x4)]) (rest := []) rfl rfl rfl rfl rfl (mjRcv_sid hk102 rfl) (by decide) (by decide) (f329_charAt_ok hq107) ?_
              rintro r9 M9 ⟨rfl, rfl⟩
              show pG 50 31 [some (.ref x0), some (.int x1), some (.long x2), d3, some (.int x4), d5] [.int v108] (mjTo Z) _
              refine pG_many 3 (pc1 := 37) (L1 := [some (.ref x0), some (.int x1), some (.long x2), d3, some (.int x4), some (.int v108)]) (st1 := [.int 32, .int v108]) (M1 := mjTo Z) (fun _ _ => rfl) ?_
              by_cases hc110 : mjCmp .eq v108 32 = true
              · rw [if_pos hc110] at h
                refine pG_cmt (t := 56) rfl rfl hc110 ?_
                refine pG_many 2 (pc1 := 5) (L1 := [some (.ref x0), some (.int x1), some (.long x2), (mjK1 d3), some (.int (x4 + 1)), some (.int v108)]) (st1 := []) (M1 := mjTo Z) (fun _ _ => rfl) ?_
                exact f50_packed_h5_ok n x0 x1 x2 (x4 + 1) ((mjK1 d3)) (some (.int v108)) Z v9 h
              · rw [if_neg hc110] at h
                refine pG_cmf (t := 56) rfl rfl hc110 ?_
                refine pG_many 13 (pc1 := 56) (L1 := [some (.ref x0), some (.int x1), some (.long (x2 ||| ((Int32.toInt64 ((v108 - 97) + 1)) <<< (Int32.toInt64 (5 * x4) &&& 63)))), none, some (.int x4), some (.int v108)]) (st1 := []) (M1 := mjTo Z) (fun _ _ => rfl) ?_
                rw [mjLet] at h
                generalize (x2 ||| ((Int32.toInt64 ((v108 - 97) + 1)) <<< (Int32.toInt64 (5 * x4) &&& 63)) : Int64) = x_111 at h ⊢
                refine pG_many 2 (pc1 := 5) (L1 := [some (.ref x0), some (.int x1), some (.long x_111), none, some (.int (x4 + 1)), some (.int v108)]) (st1 := []) (M1 := mjTo Z) (fun _ _ => rfl) ?_
                exact f50_packed_h5_ok n x0 x1 x_111 (x4 + 1) none (some (.int v108)) Z v9 h
def f50_packed (p0 : Nat) (p1 : Int32) (Z : mjZt) : Option Int64 :=
  f50_packed_h5 mjF p0 p1 0 0 Z
theorem f50_packed_ok {p0 : Nat} {p1 : Int32} {Z : mjZt} {v9 : Int64} (h : f50_packed p0 p1 Z = some v9) : pG 50 0 (mjEnt [.ref p0, .int p1] (mjML 50)) [] (mjTo Z) (fun r M1 => r = some (.long v9) ∧ M1 = mjTo Z) := by
  unfold f50_packed at h
  show pG 50 0 [some (.ref p0), some (.int p1), none, none, none, none] [] (mjTo Z) _
  refine pG_many 4 (pc1 := 5) (L1 := [some (.ref p0), some (.int p1), some (.long 0), none, some (.int 0), none]) (st1 := []) (M1 := mjTo Z) (fun _ _ => rfl) ?_
  exact f50_packed_h5_ok mjF p0 p1 0 0 none none Z v9 h
def f51_indexIn_h12 : Nat → Nat → Int32 → mjZt → Option Int32
  | 0, _, _, _ => none
  | n + 1, x1, x2, Z =>
    if mjSid x1 = true then
    mjBp (f327_length x1 Z) fun v104 =>
    if mjCmp .gt ((x2 + 1) * 8) v104 = true then
      some ((-1))
    else
      mjBp (f50_packed x1 (x2 * 8) Z) fun v108 =>
      if mjCmp .ne (lg_cmp v108 (Z.2.1 183 6)) 0 = true then
        f51_indexIn_h12 n x1 (x2 + 1) Z
      else
        some x2
    else none
theorem f51_indexIn_h12_ok : ∀ (n : Nat) (x1 : Nat) (x2 : Int32) (Z : mjZt) (v9 : Int32), f51_indexIn_h12 n x1 x2 Z = some v9 → pG 51 12 [some (.ref 183), some (.ref x1), some (.int x2)] [] (mjTo Z) (fun r M1 => r = some (.int v9) ∧ M1 = mjTo Z)
  | 0, x1, x2, Z, v9, h => by rw [f51_indexIn_h12] at h; cases h
  | n + 1, x1, x2, Z, v9, h => by
      rw [f51_indexIn_h12] at h
      refine pG_many 6 (pc1 := 19) (L1 := [some (.ref 183), some (.ref x1), some (.int x2)]) (st1 := [.ref x1, .int ((x2 + 1) * 8)]) (M1 := mjTo Z) (fun _ _ => rfl) ?_
      have hk102 : mjSid x1 = true := by
        by_cases q9 : mjSid x1 = true
        · exact q9
        · rw [if_neg q9] at h; cases h
      rw [if_pos hk102] at h
      cases hq103 : f327_length x1 Z with
      | none => rw [hq103] at h; cases h
      | some v104 =>
        rw [hq103, mjBp_some] at h
        refine pG_callV (k2 := 170) (As := [.ref x1]) (rest := [.int ((x2 + 1) * 8)]) rfl rfl rfl rfl rfl (mjRcv_sid hk102 rfl) (by decide) (by decide) (f327_length_ok hq103) ?_
        rintro r9 M9 ⟨rfl, rfl⟩
        show pG 51 22 [some (.ref 183), some (.ref x1), some (.int x2)] [.int v104, .int ((x2 + 1) * 8)] (mjTo Z) _
        by_cases hc106 : mjCmp .gt ((x2 + 1) * 8) v104 = true
        · rw [if_pos hc106] at h
          refine pG_cmt (t := 49) rfl rfl hc106 ?_
          refine pG_many 1 (pc1 := 50) (L1 := [some (.ref 183), some (.ref x1), some (.int x2)]) (st1 := [.int ((-1))]) (M1 := mjTo Z) (fun _ _ => rfl) ?_
          simp only [Option.some.injEq] at h
          subst h
          exact pG_ret (r := some (.int ((-1)))) rfl ⟨rfl, rfl⟩
        · rw [if_neg hc106] at h
          refine pG_cmf (t := 49) rfl rfl hc106 ?_
          refine pG_many 4 (pc1 := 30) (L1 := [some (.ref 183), some (.ref x1), some (.int x2)]) (st1 := [.int (x2 * 8), .ref x1]) (M1 := mjTo Z) (fun _ _ => rfl) ?_
          cases hq107 : f50_packed x1 (x2 * 8) Z with
          | none => rw [hq107] at h; cases h
          | some v108 =>
            rw [hq107, mjBp_some] at h
            refine pG_call (k2 := 50) (As := [.ref x1, .int (x2 * 8)]) (rest := []) (fun _ _ => rfl) (by decide) (by decide) (f50_packed_ok hq107) ?_
            rintro r9 M9 ⟨rfl, rfl⟩
            show pG 51 33 [some (.ref 183), some (.ref x1), some (.int x2)] [.long v108] (mjTo Z) _
            refine pG_many 1 (pc1 := 34) (L1 := [some (.ref 183), some (.ref x1), some (.int x2)]) (st1 := [.ref 183, .long v108]) (M1 := mjTo Z) (fun _ _ => rfl) ?_
            refine pG_getL (ci := 9) (f := 6) rfl rfl rfl (by rfl) (by decide) ?_
            refine pG_many 1 (pc1 := 38) (L1 := [some (.ref 183), some (.ref x1), some (.int x2)]) (st1 := [.int (lg_cmp v108 (Z.2.1 183 6))]) (M1 := mjTo Z) (fun _ _ => rfl) ?_
            by_cases hc110 : mjCmp .ne (lg_cmp v108 (Z.2.1 183 6)) 0 = true
            · rw [if_pos hc110] at h
              refine pG_ift (t := 43) rfl rfl hc110 ?_
              refine pG_many 2 (pc1 := 12) (L1 := [some (.ref 183), some (.ref x1), some (.int (x2 + 1))]) (st1 := []) (M1 := mjTo Z) (fun _ _ => rfl) ?_
              exact f51_indexIn_h12_ok n x1 (x2 + 1) Z v9 h
            · rw [if_neg hc110] at h
              refine pG_iff (t := 43) rfl rfl hc110 ?_
              refine pG_many 1 (pc1 := 42) (L1 := [some (.ref 183), some (.ref x1), some (.int x2)]) (st1 := [.int x2]) (M1 := mjTo Z) (fun _ _ => rfl) ?_
              simp only [Option.some.injEq] at h
              subst h
              exact pG_ret (r := some (.int x2)) rfl ⟨rfl, rfl⟩
def f51_indexIn (p0 : Nat) (Z : mjZt) : Option Int32 :=
  if mjCmp .eq (Z.1 183 3) 1 = true then
    f51_indexIn_h12 mjF p0 0 Z
  else
    some ((-1))
theorem f51_indexIn_ok {p0 : Nat} {Z : mjZt} {v9 : Int32} (h : f51_indexIn p0 Z = some v9) : pG 51 0 (mjEnt [.ref 183, .ref p0] (mjML 51)) [] (mjTo Z) (fun r M1 => r = some (.int v9) ∧ M1 = mjTo Z) := by
  unfold f51_indexIn at h
  show pG 51 0 [some (.ref 183), some (.ref p0), none] [] (mjTo Z) _
  refine pG_many 1 (pc1 := 1) (L1 := [some (.ref 183), some (.ref p0), none]) (st1 := [.ref 183]) (M1 := mjTo Z) (fun _ _ => rfl) ?_
  refine pG_getI (ci := 9) (f := 3) rfl rfl (Or.inl rfl) (by rfl) (by decide) ?_
  refine pG_many 1 (pc1 := 5) (L1 := [some (.ref 183), some (.ref p0), none]) (st1 := [.int 1, .int (Z.1 183 3)]) (M1 := mjTo Z) (fun _ _ => rfl) ?_
  by_cases hc101 : mjCmp .eq (Z.1 183 3) 1 = true
  · rw [if_pos hc101] at h
    refine pG_cmt (t := 10) rfl rfl hc101 ?_
    refine pG_many 2 (pc1 := 12) (L1 := [some (.ref 183), some (.ref p0), some (.int 0)]) (st1 := []) (M1 := mjTo Z) (fun _ _ => rfl) ?_
    exact f51_indexIn_h12_ok mjF p0 0 Z v9 h
  · rw [if_neg hc101] at h
    refine pG_cmf (t := 10) rfl rfl hc101 ?_
    refine pG_many 1 (pc1 := 9) (L1 := [some (.ref 183), some (.ref p0), none]) (st1 := [.int ((-1))]) (M1 := mjTo Z) (fun _ _ => rfl) ?_
    simp only [Option.some.injEq] at h
    subst h
    exact pG_ret (r := some (.int ((-1)))) rfl ⟨rfl, rfl⟩
def f52_truthEnds  (Z : mjZt) : Option Int32 :=
  mjBp (f51_indexIn 1000000 Z) fun v102 =>
  if mjCmp .eq v102 2 = true then
    some 0
  else
    if mjCmp .eq v102 3 = true then
      some 0
    else
      if mjCmp .ne (Z.1 183 3) 41 = true then
        some 1
      else
        if mjCmp .ne (Z.1 185 1) 0 = true then
          some 0
        else
          some 1
theorem f52_truthEnds_ok  {Z : mjZt} {v9 : Int32} (h : f52_truthEnds  Z = some v9) : pG 52 0 (mjEnt [.ref 185, .ref 183] (mjML 52)) [] (mjTo Z) (fun r M1 => r = some (.int v9) ∧ M1 = mjTo Z) := by
  unfold f52_truthEnds at h
  show pG 52 0 [some (.ref 185), some (.ref 183), none] [] (mjTo Z) _
  refine pG_many 2 (pc1 := 3) (L1 := [some (.ref 185), some (.ref 183), none]) (st1 := [.ref 1000000, .ref 183]) (M1 := mjTo Z) (fun _ _ => rfl) ?_
  cases hq101 : f51_indexIn 1000000 Z with
  | none => rw [hq101] at h; cases h
  | some v102 =>
    rw [hq101, mjBp_some] at h
    refine pG_callV (k2 := 51) (As := [.ref 183, .ref 1000000]) (rest := []) rfl rfl rfl rfl rfl (by rfl) (by decide) (by decide) (f51_indexIn_ok hq101) ?_
    rintro r9 M9 ⟨rfl, rfl⟩
    show pG 52 6 [some (.ref 185), some (.ref 183), none] [.int v102] (mjTo Z) _
    refine pG_many 3 (pc1 := 9) (L1 := [some (.ref 185), some (.ref 183), some (.int v102)]) (st1 := [.int 2, .int v102]) (M1 := mjTo Z) (fun _ _ => rfl) ?_
    by_cases hc104 : mjCmp .eq v102 2 = true
    · rw [if_pos hc104] at h
      refine pG_cmt (t := 37) rfl rfl hc104 ?_
      refine pG_many 1 (pc1 := 38) (L1 := [some (.ref 185), some (.ref 183), some (.int v102)]) (st1 := [.int 0]) (M1 := mjTo Z) (fun _ _ => rfl) ?_
      simp only [Option.some.injEq] at h
      subst h
      exact pG_ret (r := some (.int 0)) rfl ⟨rfl, rfl⟩
    · rw [if_neg hc104] at h
      refine pG_cmf (t := 37) rfl rfl hc104 ?_
      refine pG_many 2 (pc1 := 14) (L1 := [some (.ref 185), some (.ref 183), some (.int v102)]) (st1 := [.int 3, .int v102]) (M1 := mjTo Z) (fun _ _ => rfl) ?_
      by_cases hc105 : mjCmp .eq v102 3 = true
      · rw [if_pos hc105] at h
        refine pG_cmt (t := 37) rfl rfl hc105 ?_
        refine pG_many 1 (pc1 := 38) (L1 := [some (.ref 185), some (.ref 183), some (.int v102)]) (st1 := [.int 0]) (M1 := mjTo Z) (fun _ _ => rfl) ?_
        simp only [Option.some.injEq] at h
        subst h
        exact pG_ret (r := some (.int 0)) rfl ⟨rfl, rfl⟩
      · rw [if_neg hc105] at h
        refine pG_cmf (t := 37) rfl rfl hc105 ?_
        refine pG_many 1 (pc1 := 18) (L1 := [some (.ref 185), some (.ref 183), some (.int v102)]) (st1 := [.ref 183]) (M1 := mjTo Z) (fun _ _ => rfl) ?_
        refine pG_getI (ci := 9) (f := 3) rfl rfl (Or.inl rfl) (by rfl) (by decide) ?_
        refine pG_many 1 (pc1 := 23) (L1 := [some (.ref 185), some (.ref 183), some (.int v102)]) (st1 := [.int 41, .int (Z.1 183 3)]) (M1 := mjTo Z) (fun _ _ => rfl) ?_
        by_cases hc106 : mjCmp .ne (Z.1 183 3) 41 = true
        · rw [if_pos hc106] at h
          refine pG_cmt (t := 33) rfl rfl hc106 ?_
          refine pG_many 2 (pc1 := 38) (L1 := [some (.ref 185), some (.ref 183), some (.int v102)]) (st1 := [.int 1]) (M1 := mjTo Z) (fun _ _ => rfl) ?_
          simp only [Option.some.injEq] at h
          subst h
          exact pG_ret (r := some (.int 1)) rfl ⟨rfl, rfl⟩
        · rw [if_neg hc106] at h
          refine pG_cmf (t := 33) rfl rfl hc106 ?_
          refine pG_many 1 (pc1 := 27) (L1 := [some (.ref 185), some (.ref 183), some (.int v102)]) (st1 := [.ref 185]) (M1 := mjTo Z) (fun _ _ => rfl) ?_
          refine pG_getI (ci := 3) (f := 1) rfl rfl (Or.inl rfl) (by rfl) (by decide) ?_
          by_cases hc107 : mjCmp .ne (Z.1 185 1) 0 = true
          · rw [if_pos hc107] at h
            refine pG_ift (t := 37) rfl rfl hc107 ?_
            refine pG_many 1 (pc1 := 38) (L1 := [some (.ref 185), some (.ref 183), some (.int v102)]) (st1 := [.int 0]) (M1 := mjTo Z) (fun _ _ => rfl) ?_
            simp only [Option.some.injEq] at h
            subst h
            exact pG_ret (r := some (.int 0)) rfl ⟨rfl, rfl⟩
          · rw [if_neg hc107] at h
            refine pG_iff (t := 37) rfl rfl hc107 ?_
            refine pG_many 2 (pc1 := 38) (L1 := [some (.ref 185), some (.ref 183), some (.int v102)]) (st1 := [.int 1]) (M1 := mjTo Z) (fun _ _ => rfl) ?_
            simp only [Option.some.injEq] at h
            subst h
            exact pG_ret (r := some (.int 1)) rfl ⟨rfl, rfl⟩
def f53_finish (a0 : Nat) (Z : mjZt) : Option (Unit × mjZt) :=
  if mjIs a0 211 8 = true then
  if mjCmp .lt (Z.1 a0 6) 0 = true then
    some ((), Z)
  else
    if mjIs (a0 + 5) 211 13 = true then
    if mjCmp .ge (Z.1 a0 6) (Int32.ofNat (mjLay (a0 + 5)).2) = true then
      some ((), Z)
    else
      if mjIn (Z.1 a0 6) (mjLay (a0 + 5)).2 = true then
      mjLet (zSi Z (a0 + 5) (mjIx (Z.1 a0 6)) (Z.1 a0 7)) fun Z106 =>
      some ((), Z106)
      else none
    else none
  else none
theorem f53_finish_ok {a0 : Nat} {Z : mjZt} {v9 : Unit} {Z9 : mjZt} (h : f53_finish a0 Z = some (v9, Z9)) : pG 53 0 (mjEnt [.ref a0] (mjML 53)) [] (mjTo Z) (fun r M1 => r = none ∧ M1 = mjTo Z9) := by
  unfold f53_finish at h
  show pG 53 0 [some (.ref a0)] [] (mjTo Z) _
  refine pG_many 1 (pc1 := 1) (L1 := [some (.ref a0)]) (st1 := [.ref a0]) (M1 := mjTo Z) (fun _ _ => rfl) ?_
  have hk101 : mjIs a0 211 8 = true := by
    by_cases q9 : mjIs a0 211 8 = true
    · exact q9
    · rw [if_neg q9] at h; cases h
  rw [if_pos hk101] at h
  refine pG_getI (ci := 8) (f := 6) rfl rfl (Or.inl rfl) hk101 (by decide) ?_
  by_cases hc102 : mjCmp .lt (Z.1 a0 6) 0 = true
  · rw [if_pos hc102] at h
    refine pG_ift (t := 32) rfl rfl hc102 ?_
    simp only [Option.some.injEq, Prod.mk.injEq] at h
    obtain ⟨-, rfl⟩ := h
    exact pG_ret (r := none) rfl ⟨rfl, rfl⟩
  · rw [if_neg hc102] at h
    refine pG_iff (t := 32) rfl rfl hc102 ?_
    refine pG_many 1 (pc1 := 8) (L1 := [some (.ref a0)]) (st1 := [.ref a0]) (M1 := mjTo Z) (fun _ _ => rfl) ?_
    refine pG_getI (ci := 8) (f := 6) rfl rfl (Or.inl rfl) hk101 (by decide) ?_
    refine pG_many 1 (pc1 := 12) (L1 := [some (.ref a0)]) (st1 := [.ref a0, .int (Z.1 a0 6)]) (M1 := mjTo Z) (fun _ _ => rfl) ?_
    refine pG_getR (ci := 8) (f := 4) (b := a0 + 5) rfl rfl rfl hk101 (by decide) (mjRc8_4 hk101) ?_
    have hk103 : mjIs (a0 + 5) 211 13 = true := by
      by_cases q9 : mjIs (a0 + 5) 211 13 = true
      · exact q9
      · rw [if_neg q9] at h; cases h
    rw [if_pos hk103] at h
    refine pG_lenS (c := 13) rfl (by decide) (by decide) hk103 ?_
    by_cases hc104 : mjCmp .ge (Z.1 a0 6) (Int32.ofNat (mjLay (a0 + 5)).2) = true
    · rw [if_pos hc104] at h
      refine pG_cmt (t := 32) rfl rfl hc104 ?_
      simp only [Option.some.injEq, Prod.mk.injEq] at h
      obtain ⟨-, rfl⟩ := h
      exact pG_ret (r := none) rfl ⟨rfl, rfl⟩
    · rw [if_neg hc104] at h
      refine pG_cmf (t := 32) rfl rfl hc104 ?_
      refine pG_many 1 (pc1 := 20) (L1 := [some (.ref a0)]) (st1 := [.ref a0]) (M1 := mjTo Z) (fun _ _ => rfl) ?_
      refine pG_getR (ci := 8) (f := 4) (b := a0 + 5) rfl rfl rfl hk101 (by decide) (mjRc8_4 hk101) ?_
      refine pG_many 1 (pc1 := 24) (L1 := [some (.ref a0)]) (st1 := [.ref a0, .ref (a0 + 5)]) (M1 := mjTo Z) (fun _ _ => rfl) ?_
      refine pG_getI (ci := 8) (f := 6) rfl rfl (Or.inl rfl) hk101 (by decide) ?_
      refine pG_many 1 (pc1 := 28) (L1 := [some (.ref a0)]) (st1 := [.ref a0, .int (Z.1 a0 6), .ref (a0 + 5)]) (M1 := mjTo Z) (fun _ _ => rfl) ?_
      refine pG_getI (ci := 8) (f := 7) rfl rfl (Or.inl rfl) hk101 (by decide) ?_
      have hk105 : mjIn (Z.1 a0 6) (mjLay (a0 + 5)).2 = true := by
        by_cases q9 : mjIn (Z.1 a0 6) (mjLay (a0 + 5)).2 = true
        · exact q9
        · rw [if_neg q9] at h; cases h
      rw [if_pos hk105] at h
      refine pG_ias rfl hk103 hk105 (?_ : pG 53 32 [some (.ref a0)] [] (mjTo (zSi Z (a0 + 5) (mjIx (Z.1 a0 6)) (Z.1 a0 7))) _)
      rw [mjLet] at h
      generalize zSi Z (a0 + 5) (mjIx (Z.1 a0 6)) (Z.1 a0 7) = Z106 at h ⊢
      simp only [Option.some.injEq, Prod.mk.injEq] at h
      obtain ⟨-, rfl⟩ := h
      exact pG_ret (r := none) rfl ⟨rfl, rfl⟩
def f54_comparisonStarts  (Z : mjZt) : Option Int32 :=
  if mjCmp .eq (Z.1 183 3) 40 = true then
    some 0
  else
    mjBp (f51_indexIn 1000000 Z) fun v103 =>
    if mjCmp .eq v103 4 = true then
      some 0
    else
      some 1
theorem f54_comparisonStarts_ok  {Z : mjZt} {v9 : Int32} (h : f54_comparisonStarts  Z = some v9) : pG 54 0 (mjEnt [.ref 185, .ref 183] (mjML 54)) [] (mjTo Z) (fun r M1 => r = some (.int v9) ∧ M1 = mjTo Z) := by
  unfold f54_comparisonStarts at h
  show pG 54 0 [some (.ref 185), some (.ref 183)] [] (mjTo Z) _
  refine pG_many 1 (pc1 := 1) (L1 := [some (.ref 185), some (.ref 183)]) (st1 := [.ref 183]) (M1 := mjTo Z) (fun _ _ => rfl) ?_
  refine pG_getI (ci := 9) (f := 3) rfl rfl (Or.inl rfl) (by rfl) (by decide) ?_
  refine pG_many 1 (pc1 := 6) (L1 := [some (.ref 185), some (.ref 183)]) (st1 := [.int 40, .int (Z.1 183 3)]) (M1 := mjTo Z) (fun _ _ => rfl) ?_
  by_cases hc101 : mjCmp .eq (Z.1 183 3) 40 = true
  · rw [if_pos hc101] at h
    refine pG_cmt (t := 23) rfl rfl hc101 ?_
    refine pG_many 1 (pc1 := 24) (L1 := [some (.ref 185), some (.ref 183)]) (st1 := [.int 0]) (M1 := mjTo Z) (fun _ _ => rfl) ?_
    simp only [Option.some.injEq] at h
    subst h
    exact pG_ret (r := some (.int 0)) rfl ⟨rfl, rfl⟩
  · rw [if_neg hc101] at h
    refine pG_cmf (t := 23) rfl rfl hc101 ?_
    refine pG_many 2 (pc1 := 12) (L1 := [some (.ref 185), some (.ref 183)]) (st1 := [.ref 1000000, .ref 183]) (M1 := mjTo Z) (fun _ _ => rfl) ?_
    cases hq102 : f51_indexIn 1000000 Z with
    | none => rw [hq102] at h; cases h
    | some v103 =>
      rw [hq102, mjBp_some] at h
      refine pG_callV (k2 := 51) (As := [.ref 183, .ref 1000000]) (rest := []) rfl rfl rfl rfl rfl (by rfl) (by decide) (by decide) (f51_indexIn_ok hq102) ?_
      rintro r9 M9 ⟨rfl, rfl⟩
      show pG 54 15 [some (.ref 185), some (.ref 183)] [.int v103] (mjTo Z) _
      refine pG_many 1 (pc1 := 16) (L1 := [some (.ref 185), some (.ref 183)]) (st1 := [.int 4, .int v103]) (M1 := mjTo Z) (fun _ _ => rfl) ?_
      by_cases hc105 : mjCmp .eq v103 4 = true
      · rw [if_pos hc105] at h
        refine pG_cmt (t := 23) rfl rfl hc105 ?_
        refine pG_many 1 (pc1 := 24) (L1 := [some (.ref 185), some (.ref 183)]) (st1 := [.int 0]) (M1 := mjTo Z) (fun _ _ => rfl) ?_
        simp only [Option.some.injEq] at h
        subst h
        exact pG_ret (r := some (.int 0)) rfl ⟨rfl, rfl⟩
      · rw [if_neg hc105] at h
        refine pG_cmf (t := 23) rfl rfl hc105 ?_
        refine pG_many 2 (pc1 := 24) (L1 := [some (.ref 185), some (.ref 183)]) (st1 := [.int 1]) (M1 := mjTo Z) (fun _ _ => rfl) ?_
        simp only [Option.some.injEq] at h
        subst h
        exact pG_ret (r := some (.int 1)) rfl ⟨rfl, rfl⟩
def f55_push (p0 : Nat) (p1 : Int32) (Z : mjZt) : Option (Unit × mjZt) :=
  if mjCmp .lt (Z.1 185 6) 0 = true then
    some ((), Z)
  else
    if mjCmp .ge (Z.1 185 6) 64 = true then
      some ((), Z)
    else
      if mjIn (Z.1 185 6) 64 = true then
      mjLet (zSi Z 186 (mjIx (Z.1 185 6)) p1) fun Z104 =>
      if mjIs p0 211 8 = true then
      if mjIn (Z104.1 185 6) 64 = true then
      mjLet (zSi Z104 187 (mjIx (Z104.1 185 6)) ((Z104.1 p0 7) - 1)) fun Z107 =>
      mjLet (zSi Z107 185 6 ((Z107.1 185 6) + 1)) fun Z108 =>
      some ((), Z108)
      else none
      else none
      else none
theorem f55_push_ok {p0 : Nat} {p1 : Int32} {Z : mjZt} {v9 : Unit} {Z9 : mjZt} (h : f55_push p0 p1 Z = some (v9, Z9)) : pG 55 0 (mjEnt [.ref 185, .ref p0, .int p1] (mjML 55)) [] (mjTo Z) (fun r M1 => r = none ∧ M1 = mjTo Z9) := by
  unfold f55_push at h
  show pG 55 0 [some (.ref 185), some (.ref p0), some (.int p1)] [] (mjTo Z) _
  refine pG_many 1 (pc1 := 1) (L1 := [some (.ref 185), some (.ref p0), some (.int p1)]) (st1 := [.ref 185]) (M1 := mjTo Z) (fun _ _ => rfl) ?_
  refine pG_getI (ci := 3) (f := 6) rfl rfl (Or.inl rfl) (by rfl) (by decide) ?_
  by_cases hc101 : mjCmp .lt (Z.1 185 6) 0 = true
  · rw [if_pos hc101] at h
    refine pG_ift (t := 51) rfl rfl hc101 ?_
    simp only [Option.some.injEq, Prod.mk.injEq] at h
    obtain ⟨-, rfl⟩ := h
    exact pG_ret (r := none) rfl ⟨rfl, rfl⟩
  · rw [if_neg hc101] at h
    refine pG_iff (t := 51) rfl rfl hc101 ?_
    refine pG_many 1 (pc1 := 8) (L1 := [some (.ref 185), some (.ref p0), some (.int p1)]) (st1 := [.ref 185]) (M1 := mjTo Z) (fun _ _ => rfl) ?_
    refine pG_getI (ci := 3) (f := 6) rfl rfl (Or.inl rfl) (by rfl) (by decide) ?_
    refine pG_many 1 (pc1 := 13) (L1 := [some (.ref 185), some (.ref p0), some (.int p1)]) (st1 := [.int 64, .int (Z.1 185 6)]) (M1 := mjTo Z) (fun _ _ => rfl) ?_
    by_cases hc102 : mjCmp .ge (Z.1 185 6) 64 = true
    · rw [if_pos hc102] at h
      refine pG_cmt (t := 51) rfl rfl hc102 ?_
      simp only [Option.some.injEq, Prod.mk.injEq] at h
      obtain ⟨-, rfl⟩ := h
      exact pG_ret (r := none) rfl ⟨rfl, rfl⟩
    · rw [if_neg hc102] at h
      refine pG_cmf (t := 51) rfl rfl hc102 ?_
      refine pG_many 1 (pc1 := 17) (L1 := [some (.ref 185), some (.ref p0), some (.int p1)]) (st1 := [.ref 185]) (M1 := mjTo Z) (fun _ _ => rfl) ?_
      refine pG_getR (ci := 3) (f := 4) (b := 186) rfl rfl rfl (by rfl) (by decide) rfl ?_
      refine pG_many 1 (pc1 := 21) (L1 := [some (.ref 185), some (.ref p0), some (.int p1)]) (st1 := [.ref 185, .ref 186]) (M1 := mjTo Z) (fun _ _ => rfl) ?_
      refine pG_getI (ci := 3) (f := 6) rfl rfl (Or.inl rfl) (by rfl) (by decide) ?_
      refine pG_many 1 (pc1 := 25) (L1 := [some (.ref 185), some (.ref p0), some (.int p1)]) (st1 := [.int p1, .int (Z.1 185 6), .ref 186]) (M1 := mjTo Z) (fun _ _ => rfl) ?_
      have hk103 : mjIn (Z.1 185 6) 64 = true := by
        by_cases q9 : mjIn (Z.1 185 6) 64 = true
        · exact q9
        · rw [if_neg q9] at h; cases h
      rw [if_pos hk103] at h
      refine pG_ias rfl (by rfl) hk103 (?_ : pG 55 26 [some (.ref 185), some (.ref p0), some (.int p1)] [] (mjTo (zSi Z 186 (mjIx (Z.1 185 6)) p1)) _)
      rw [mjLet] at h
      generalize zSi Z 186 (mjIx (Z.1 185 6)) p1 = Z104 at h ⊢
      refine pG_many 1 (pc1 := 27) (L1 := [some (.ref 185), some (.ref p0), some (.int p1)]) (st1 := [.ref 185]) (M1 := mjTo Z104) (fun _ _ => rfl) ?_
      refine pG_getR (ci := 3) (f := 5) (b := 187) rfl rfl rfl (by rfl) (by decide) rfl ?_
      refine pG_many 1 (pc1 := 31) (L1 := [some (.ref 185), some (.ref p0), some (.int p1)]) (st1 := [.ref 185, .ref 187]) (M1 := mjTo Z104) (fun _ _ => rfl) ?_
      refine pG_getI (ci := 3) (f := 6) rfl rfl (Or.inl rfl) (by rfl) (by decide) ?_
      refine pG_many 1 (pc1 := 35) (L1 := [some (.ref 185), some (.ref p0), some (.int p1)]) (st1 := [.ref p0, .int (Z104.1 185 6), .ref 187]) (M1 := mjTo Z104) (fun _ _ => rfl) ?_
      have hk105 : mjIs p0 211 8 = true := by
        by_cases q9 : mjIs p0 211 8 = true
        · exact q9
        · rw [if_neg q9] at h; cases h
      rw [if_pos hk105] at h
      refine pG_getI (ci := 8) (f := 7) rfl rfl (Or.inl rfl) hk105 (by decide) ?_
      refine pG_many 2 (pc1 := 40) (L1 := [some (.ref 185), some (.ref p0), some (.int p1)]) (st1 := [.int ((Z104.1 p0 7) - 1), .int (Z104.1 185 6), .ref 187]) (M1 := mjTo Z104) (fun _ _ => rfl) ?_
      have hk106 : mjIn (Z104.1 185 6) 64 = true := by
        by_cases q9 : mjIn (Z104.1 185 6) 64 = true
        · exact q9
        · rw [if_neg q9] at h; cases h
      rw [if_pos hk106] at h
      refine pG_ias rfl (by rfl) hk106 (?_ : pG 55 41 [some (.ref 185), some (.ref p0), some (.int p1)] [] (mjTo (zSi Z104 187 (mjIx (Z104.1 185 6)) ((Z104.1 p0 7) - 1))) _)
      rw [mjLet] at h
      generalize zSi Z104 187 (mjIx (Z104.1 185 6)) ((Z104.1 p0 7) - 1) = Z107 at h ⊢
      refine pG_many 2 (pc1 := 43) (L1 := [some (.ref 185), some (.ref p0), some (.int p1)]) (st1 := [.ref 185, .ref 185]) (M1 := mjTo Z107) (fun _ _ => rfl) ?_
      refine pG_getI (ci := 3) (f := 6) rfl rfl (Or.inl rfl) (by rfl) (by decide) ?_
      refine pG_many 2 (pc1 := 48) (L1 := [some (.ref 185), some (.ref p0), some (.int p1)]) (st1 := [.int ((Z107.1 185 6) + 1), .ref 185]) (M1 := mjTo Z107) (fun _ _ => rfl) ?_
      refine pG_putI (ci := 3) (f := 6) rfl rfl rfl rfl (by rfl) (by decide) ?_
      rw [mjLet] at h
      generalize zSi Z107 185 6 ((Z107.1 185 6) + 1) = Z108 at h ⊢
      simp only [Option.some.injEq, Prod.mk.injEq] at h
      obtain ⟨-, rfl⟩ := h
      exact pG_ret (r := none) rfl ⟨rfl, rfl⟩
def f56_openOne (p0 : Nat) (p1 : Int32) (Z : mjZt) : Option (Int32 × mjZt) :=
  if mjCmp .lt (Z.1 185 1) 6 = true then
    mjLet (zSi Z 185 1 ((Z.1 185 1) + 1)) fun Z102 =>
    mjBd (f55_push p0 p1 Z102) fun _ Z105 =>
    some (0, Z105)
  else
    some (7, Z)
theorem f56_openOne_ok {p0 : Nat} {p1 : Int32} {Z : mjZt} {v9 : Int32} {Z9 : mjZt} (h : f56_openOne p0 p1 Z = some (v9, Z9)) : pG 56 0 (mjEnt [.ref 185, .ref p0, .int p1] (mjML 56)) [] (mjTo Z) (fun r M1 => r = some (.int v9) ∧ M1 = mjTo Z9) := by
  unfold f56_openOne at h
  show pG 56 0 [some (.ref 185), some (.ref p0), some (.int p1)] [] (mjTo Z) _
  refine pG_many 1 (pc1 := 1) (L1 := [some (.ref 185), some (.ref p0), some (.int p1)]) (st1 := [.ref 185]) (M1 := mjTo Z) (fun _ _ => rfl) ?_
  refine pG_getI (ci := 3) (f := 1) rfl rfl (Or.inl rfl) (by rfl) (by decide) ?_
  refine pG_many 1 (pc1 := 6) (L1 := [some (.ref 185), some (.ref p0), some (.int p1)]) (st1 := [.int 6, .int (Z.1 185 1)]) (M1 := mjTo Z) (fun _ _ => rfl) ?_
  by_cases hc101 : mjCmp .lt (Z.1 185 1) 6 = true
  · rw [if_pos hc101] at h
    refine pG_cmt (t := 12) rfl rfl hc101 ?_
    refine pG_many 2 (pc1 := 14) (L1 := [some (.ref 185), some (.ref p0), some (.int p1)]) (st1 := [.ref 185, .ref 185]) (M1 := mjTo Z) (fun _ _ => rfl) ?_
    refine pG_getI (ci := 3) (f := 1) rfl rfl (Or.inl rfl) (by rfl) (by decide) ?_
    refine pG_many 2 (pc1 := 19) (L1 := [some (.ref 185), some (.ref p0), some (.int p1)]) (st1 := [.int ((Z.1 185 1) + 1), .ref 185]) (M1 := mjTo Z) (fun _ _ => rfl) ?_
    refine pG_putI (ci := 3) (f := 1) rfl rfl rfl rfl (by rfl) (by decide) ?_
    rw [mjLet] at h
    generalize zSi Z 185 1 ((Z.1 185 1) + 1) = Z102 at h ⊢
    refine pG_many 3 (pc1 := 25) (L1 := [some (.ref 185), some (.ref p0), some (.int p1)]) (st1 := [.int p1, .ref p0, .ref 185]) (M1 := mjTo Z102) (fun _ _ => rfl) ?_
    cases hq103 : f55_push p0 p1 Z102 with
    | none => rw [hq103] at h; cases h
    | some w =>
      obtain ⟨v104, Z105⟩ := w
      rw [hq103, mjBd_some] at h
      refine pG_callV (k2 := 55) (As := [.ref 185, .ref p0, .int p1]) (rest := []) rfl rfl rfl rfl rfl (by rfl) (by decide) (by decide) (f55_push_ok hq103) ?_
      rintro r9 M9 ⟨rfl, rfl⟩
      show pG 56 28 [some (.ref 185), some (.ref p0), some (.int p1)] [] (mjTo Z105) _
      refine pG_many 1 (pc1 := 29) (L1 := [some (.ref 185), some (.ref p0), some (.int p1)]) (st1 := [.int 0]) (M1 := mjTo Z105) (fun _ _ => rfl) ?_
      simp only [Option.some.injEq, Prod.mk.injEq] at h
      obtain ⟨rfl, rfl⟩ := h
      exact pG_ret (r := some (.int 0)) rfl ⟨rfl, rfl⟩
  · rw [if_neg hc101] at h
    refine pG_cmf (t := 12) rfl rfl hc101 ?_
    refine pG_many 1 (pc1 := 11) (L1 := [some (.ref 185), some (.ref p0), some (.int p1)]) (st1 := [.int 7]) (M1 := mjTo Z) (fun _ _ => rfl) ?_
    simp only [Option.some.injEq, Prod.mk.injEq] at h
    obtain ⟨rfl, rfl⟩ := h
    exact pG_ret (r := some (.int 7)) rfl ⟨rfl, rfl⟩
def f57_startNumber_j48 (x2 : Nat) (x3 : Int32) (Z : mjZt) : Option (Int32 × mjZt) :=
  if mjCmp .ne x3 ((-1)) = true then
    if mjIs x2 211 8 = true then
    mjBd (f48_put x2 1 x3 0 Z) fun _ Z110 =>
    mjLet (zSi Z110 185 0 2) fun Z111 =>
    some (0, Z111)
    else none
  else
    if mjIs x2 211 8 = true then
    mjBd (f48_put x2 0 (Z.1 183 5) 0 Z) fun _ Z115 =>
    mjLet (zSi Z115 185 0 2) fun Z116 =>
    some (0, Z116)
    else none
theorem f57_startNumber_j48_ok (x2 : Nat) (x3 : Int32) (Z : mjZt) (v9 : Int32) (Z9 : mjZt) (h : f57_startNumber_j48 x2 x3 Z = some (v9, Z9)) : pG 57 48 [some (.ref 185), some (.ref 183), some (.ref x2), some (.int x3)] [] (mjTo Z) (fun r M1 => r = some (.int v9) ∧ M1 = mjTo Z9) := by
  unfold f57_startNumber_j48 at h
  refine pG_many 2 (pc1 := 50) (L1 := [some (.ref 185), some (.ref 183), some (.ref x2), some (.int x3)]) (st1 := [.int ((-1)), .int x3]) (M1 := mjTo Z) (fun _ _ => rfl) ?_
  by_cases hc106 : mjCmp .ne x3 ((-1)) = true
  · rw [if_pos hc106] at h
    refine pG_cmt (t := 66) rfl rfl hc106 ?_
    refine pG_many 4 (pc1 := 70) (L1 := [some (.ref 185), some (.ref 183), some (.ref x2), some (.int x3)]) (st1 := [.int 0, .int x3, .int 1, .ref x2]) (M1 := mjTo Z) (fun _ _ => rfl) ?_
    have hk107 : mjIs x2 211 8 = true := by
      by_cases q9 : mjIs x2 211 8 = true
      · exact q9
      · rw [if_neg q9] at h; cases h
    rw [if_pos hk107] at h
    cases hq108 : f48_put x2 1 x3 0 Z with
    | none => rw [hq108] at h; cases h
    | some w =>
      obtain ⟨v109, Z110⟩ := w
      rw [hq108, mjBd_some] at h
      refine pG_callV (k2 := 48) (As := [.ref x2, .int 1, .int x3, .int 0]) (rest := []) rfl rfl rfl rfl rfl (mjRcv_is hk107 (by decide)) (by decide) (by decide) (f48_put_ok hq108) ?_
      rintro r9 M9 ⟨rfl, rfl⟩
      show pG 57 73 [some (.ref 185), some (.ref 183), some (.ref x2), some (.int x3)] [] (mjTo Z110) _
      refine pG_many 2 (pc1 := 75) (L1 := [some (.ref 185), some (.ref 183), some (.ref x2), some (.int x3)]) (st1 := [.int 2, .ref 185]) (M1 := mjTo Z110) (fun _ _ => rfl) ?_
      refine pG_putI (ci := 3) (f := 0) rfl rfl rfl rfl (by rfl) (by decide) ?_
      rw [mjLet] at h
      generalize zSi Z110 185 0 2 = Z111 at h ⊢
      refine pG_many 1 (pc1 := 79) (L1 := [some (.ref 185), some (.ref 183), some (.ref x2), some (.int x3)]) (st1 := [.int 0]) (M1 := mjTo Z111) (fun _ _ => rfl) ?_
      simp only [Option.some.injEq, Prod.mk.injEq] at h
      obtain ⟨rfl, rfl⟩ := h
      exact pG_ret (r := some (.int 0)) rfl ⟨rfl, rfl⟩
  · rw [if_neg hc106] at h
    refine pG_cmf (t := 66) rfl rfl hc106 ?_
    refine pG_many 3 (pc1 := 56) (L1 := [some (.ref 185), some (.ref 183), some (.ref x2), some (.int x3)]) (st1 := [.ref 183, .int 0, .ref x2]) (M1 := mjTo Z) (fun _ _ => rfl) ?_
    refine pG_getI (ci := 9) (f := 5) rfl rfl (Or.inl rfl) (by rfl) (by decide) ?_
    refine pG_many 1 (pc1 := 60) (L1 := [some (.ref 185), some (.ref 183), some (.ref x2), some (.int x3)]) (st1 := [.int 0, .int (Z.1 183 5), .int 0, .ref x2]) (M1 := mjTo Z) (fun _ _ => rfl) ?_
    have hk112 : mjIs x2 211 8 = true := by
      by_cases q9 : mjIs x2 211 8 = true
      · exact q9
      · rw [if_neg q9] at h; cases h
    rw [if_pos hk112] at h
    cases hq113 : f48_put x2 0 (Z.1 183 5) 0 Z with
    | none => rw [hq113] at h; cases h
    | some w =>
      obtain ⟨v114, Z115⟩ := w
      rw [hq113, mjBd_some] at h
      refine pG_callV (k2 := 48) (As := [.ref x2, .int 0, .int (Z.1 183 5), .int 0]) (rest := []) rfl rfl rfl rfl rfl (mjRcv_is hk112 (by decide)) (by decide) (by decide) (f48_put_ok hq113) ?_
      rintro r9 M9 ⟨rfl, rfl⟩
      show pG 57 63 [some (.ref 185), some (.ref 183), some (.ref x2), some (.int x3)] [] (mjTo Z115) _
      refine pG_many 3 (pc1 := 75) (L1 := [some (.ref 185), some (.ref 183), some (.ref x2), some (.int x3)]) (st1 := [.int 2, .ref 185]) (M1 := mjTo Z115) (fun _ _ => rfl) ?_
      refine pG_putI (ci := 3) (f := 0) rfl rfl rfl rfl (by rfl) (by decide) ?_
      rw [mjLet] at h
      generalize zSi Z115 185 0 2 = Z116 at h ⊢
      refine pG_many 1 (pc1 := 79) (L1 := [some (.ref 185), some (.ref 183), some (.ref x2), some (.int x3)]) (st1 := [.int 0]) (M1 := mjTo Z116) (fun _ _ => rfl) ?_
      simp only [Option.some.injEq, Prod.mk.injEq] at h
      obtain ⟨rfl, rfl⟩ := h
      exact pG_ret (r := some (.int 0)) rfl ⟨rfl, rfl⟩
def f57_startNumber (p1 : Nat) (Z : mjZt) : Option (Int32 × mjZt) :=
  if mjCmp .ne (Z.1 183 3) 123 = true then
    mjBp (f51_indexIn 1000001 Z) fun v103 =>
    if mjCmp .eq (Z.1 183 3) 2 = true then
      f57_startNumber_j48 p1 v103 Z
    else
      if mjCmp .ne v103 ((-1)) = true then
        f57_startNumber_j48 p1 v103 Z
      else
        some (2, Z)
  else
    mjLet (zSi Z 185 2 ((Z.1 185 2) + 1)) fun Z118 =>
    mjBd (f56_openOne p1 3 Z118) fun v120 Z121 =>
    some (v120, Z121)
theorem f57_startNumber_ok {p1 : Nat} {Z : mjZt} {v9 : Int32} {Z9 : mjZt} (h : f57_startNumber p1 Z = some (v9, Z9)) : pG 57 0 (mjEnt [.ref 185, .ref 183, .ref p1] (mjML 57)) [] (mjTo Z) (fun r M1 => r = some (.int v9) ∧ M1 = mjTo Z9) := by
  unfold f57_startNumber at h
  show pG 57 0 [some (.ref 185), some (.ref 183), some (.ref p1), none] [] (mjTo Z) _
  refine pG_many 1 (pc1 := 1) (L1 := [some (.ref 185), some (.ref 183), some (.ref p1), none]) (st1 := [.ref 183]) (M1 := mjTo Z) (fun _ _ => rfl) ?_
  refine pG_getI (ci := 9) (f := 3) rfl rfl (Or.inl rfl) (by rfl) (by decide) ?_
  refine pG_many 1 (pc1 := 6) (L1 := [some (.ref 185), some (.ref 183), some (.ref p1), none]) (st1 := [.int 123, .int (Z.1 183 3)]) (M1 := mjTo Z) (fun _ _ => rfl) ?_
  by_cases hc101 : mjCmp .ne (Z.1 183 3) 123 = true
  · rw [if_pos hc101] at h
    refine pG_cmt (t := 26) rfl rfl hc101 ?_
    refine pG_many 2 (pc1 := 29) (L1 := [some (.ref 185), some (.ref 183), some (.ref p1), none]) (st1 := [.ref 1000001, .ref 183]) (M1 := mjTo Z) (fun _ _ => rfl) ?_
    cases hq102 : f51_indexIn 1000001 Z with
    | none => rw [hq102] at h; cases h
    | some v103 =>
      rw [hq102, mjBp_some] at h
      refine pG_callV (k2 := 51) (As := [.ref 183, .ref 1000001]) (rest := []) rfl rfl rfl rfl rfl (by rfl) (by decide) (by decide) (f51_indexIn_ok hq102) ?_
      rintro r9 M9 ⟨rfl, rfl⟩
      show pG 57 32 [some (.ref 185), some (.ref 183), some (.ref p1), none] [.int v103] (mjTo Z) _
      refine pG_many 2 (pc1 := 34) (L1 := [some (.ref 185), some (.ref 183), some (.ref p1), some (.int v103)]) (st1 := [.ref 183]) (M1 := mjTo Z) (fun _ _ => rfl) ?_
      refine pG_getI (ci := 9) (f := 3) rfl rfl (Or.inl rfl) (by rfl) (by decide) ?_
      refine pG_many 1 (pc1 := 38) (L1 := [some (.ref 185), some (.ref 183), some (.ref p1), some (.int v103)]) (st1 := [.int 2, .int (Z.1 183 3)]) (M1 := mjTo Z) (fun _ _ => rfl) ?_
      by_cases hc105 : mjCmp .eq (Z.1 183 3) 2 = true
      · rw [if_pos hc105] at h
        refine pG_cmt (t := 48) rfl rfl hc105 ?_
        exact f57_startNumber_j48_ok p1 v103 Z v9 Z9 h
      · rw [if_neg hc105] at h
        refine pG_cmf (t := 48) rfl rfl hc105 ?_
        refine pG_many 2 (pc1 := 43) (L1 := [some (.ref 185), some (.ref 183), some (.ref p1), some (.int v103)]) (st1 := [.int ((-1)), .int v103]) (M1 := mjTo Z) (fun _ _ => rfl) ?_
        by_cases hc117 : mjCmp .ne v103 ((-1)) = true
        · rw [if_pos hc117] at h
          refine pG_cmt (t := 48) rfl rfl hc117 ?_
          exact f57_startNumber_j48_ok p1 v103 Z v9 Z9 h
        · rw [if_neg hc117] at h
          refine pG_cmf (t := 48) rfl rfl hc117 ?_
          refine pG_many 1 (pc1 := 47) (L1 := [some (.ref 185), some (.ref 183), some (.ref p1), some (.int v103)]) (st1 := [.int 2]) (M1 := mjTo Z) (fun _ _ => rfl) ?_
          simp only [Option.some.injEq, Prod.mk.injEq] at h
          obtain ⟨rfl, rfl⟩ := h
          exact pG_ret (r := some (.int 2)) rfl ⟨rfl, rfl⟩
  · rw [if_neg hc101] at h
    refine pG_cmf (t := 26) rfl rfl hc101 ?_
    refine pG_many 2 (pc1 := 11) (L1 := [some (.ref 185), some (.ref 183), some (.ref p1), none]) (st1 := [.ref 185, .ref 185]) (M1 := mjTo Z) (fun _ _ => rfl) ?_
    refine pG_getI (ci := 3) (f := 2) rfl rfl (Or.inl rfl) (by rfl) (by decide) ?_
    refine pG_many 2 (pc1 := 16) (L1 := [some (.ref 185), some (.ref 183), some (.ref p1), none]) (st1 := [.int ((Z.1 185 2) + 1), .ref 185]) (M1 := mjTo Z) (fun _ _ => rfl) ?_
    refine pG_putI (ci := 3) (f := 2) rfl rfl rfl rfl (by rfl) (by decide) ?_
    rw [mjLet] at h
    generalize zSi Z 185 2 ((Z.1 185 2) + 1) = Z118 at h ⊢
    refine pG_many 3 (pc1 := 22) (L1 := [some (.ref 185), some (.ref 183), some (.ref p1), none]) (st1 := [.int 3, .ref p1, .ref 185]) (M1 := mjTo Z118) (fun _ _ => rfl) ?_
    cases hq119 : f56_openOne p1 3 Z118 with
    | none => rw [hq119] at h; cases h
    | some w =>
      obtain ⟨v120, Z121⟩ := w
      rw [hq119, mjBd_some] at h
      refine pG_callV (k2 := 56) (As := [.ref 185, .ref p1, .int 3]) (rest := []) rfl rfl rfl rfl rfl (by rfl) (by decide) (by decide) (f56_openOne_ok hq119) ?_
      rintro r9 M9 ⟨rfl, rfl⟩
      show pG 57 25 [some (.ref 185), some (.ref 183), some (.ref p1), none] [.int v120] (mjTo Z121) _
      simp only [Option.some.injEq, Prod.mk.injEq] at h
      obtain ⟨rfl, rfl⟩ := h
      exact pG_ret (r := some (.int v120)) rfl ⟨rfl, rfl⟩
def f58_isComparison (p0 : Int32) (Z : mjZt) : Option Int32 :=
  if mjCmp .lt p0 7 = true then
    some 0
  else
    if mjCmp .gt p0 9 = true then
      some 0
    else
      some 1
theorem f58_isComparison_ok {p0 : Int32} {Z : mjZt} {v9 : Int32} (h : f58_isComparison p0 Z = some v9) : pG 58 0 (mjEnt [.int p0] (mjML 58)) [] (mjTo Z) (fun r M1 => r = some (.int v9) ∧ M1 = mjTo Z) := by
  unfold f58_isComparison at h
  show pG 58 0 [some (.int p0)] [] (mjTo Z) _
  refine pG_many 2 (pc1 := 3) (L1 := [some (.int p0)]) (st1 := [.int 7, .int p0]) (M1 := mjTo Z) (fun _ _ => rfl) ?_
  by_cases hc101 : mjCmp .lt p0 7 = true
  · rw [if_pos hc101] at h
    refine pG_cmt (t := 16) rfl rfl hc101 ?_
    refine pG_many 1 (pc1 := 17) (L1 := [some (.int p0)]) (st1 := [.int 0]) (M1 := mjTo Z) (fun _ _ => rfl) ?_
    simp only [Option.some.injEq] at h
    subst h
    exact pG_ret (r := some (.int 0)) rfl ⟨rfl, rfl⟩
  · rw [if_neg hc101] at h
    refine pG_cmf (t := 16) rfl rfl hc101 ?_
    refine pG_many 2 (pc1 := 9) (L1 := [some (.int p0)]) (st1 := [.int 9, .int p0]) (M1 := mjTo Z) (fun _ _ => rfl) ?_
    by_cases hc102 : mjCmp .gt p0 9 = true
    · rw [if_pos hc102] at h
      refine pG_cmt (t := 16) rfl rfl hc102 ?_
      refine pG_many 1 (pc1 := 17) (L1 := [some (.int p0)]) (st1 := [.int 0]) (M1 := mjTo Z) (fun _ _ => rfl) ?_
      simp only [Option.some.injEq] at h
      subst h
      exact pG_ret (r := some (.int 0)) rfl ⟨rfl, rfl⟩
    · rw [if_neg hc102] at h
      refine pG_cmf (t := 16) rfl rfl hc102 ?_
      refine pG_many 2 (pc1 := 17) (L1 := [some (.int p0)]) (st1 := [.int 1]) (M1 := mjTo Z) (fun _ _ => rfl) ?_
      simp only [Option.some.injEq] at h
      subst h
      exact pG_ret (r := some (.int 1)) rfl ⟨rfl, rfl⟩
def f59_join_j28 (x1 : Nat) (x2 : Int32) (x3 : Int32) (Z : mjZt) : Option (Int32 × mjZt) :=
  mjBd (f49_reduce x1 x3 Z) fun _ Z107 =>
  mjBd (f55_push x1 x2 Z107) fun _ Z110 =>
  if mjCmp .eq x2 5 = true then
    mjLet (zSi Z110 185 0 0) fun Z112 =>
    some (0, Z112)
  else
    if mjCmp .ne x2 4 = true then
      mjLet (zSi Z110 185 0 1) fun Z114 =>
      some (0, Z114)
    else
      mjLet (zSi Z110 185 0 0) fun Z115 =>
      some (0, Z115)
theorem f59_join_j28_ok (x1 : Nat) (x2 : Int32) (x3 : Int32) (Z : mjZt) (v9 : Int32) (Z9 : mjZt) (h : f59_join_j28 x1 x2 x3 Z = some (v9, Z9)) : pG 59 28 [some (.ref 185), some (.ref x1), some (.int x2), some (.int x3)] [] (mjTo Z) (fun r M1 => r = some (.int v9) ∧ M1 = mjTo Z9) := by
  unfold f59_join_j28 at h
  refine pG_many 3 (pc1 := 31) (L1 := [some (.ref 185), some (.ref x1), some (.int x2), some (.int x3)]) (st1 := [.int x3, .ref x1, .ref 185]) (M1 := mjTo Z) (fun _ _ => rfl) ?_
  cases hq105 : f49_reduce x1 x3 Z with
  | none => rw [hq105] at h; cases h
  | some w =>
    obtain ⟨v106, Z107⟩ := w
    rw [hq105, mjBd_some] at h
    refine pG_callV (k2 := 49) (As := [.ref 185, .ref x1, .int x3]) (rest := []) rfl rfl rfl rfl rfl (by rfl) (by decide) (by decide) (f49_reduce_ok hq105) ?_
    rintro r9 M9 ⟨rfl, rfl⟩
    show pG 59 34 [some (.ref 185), some (.ref x1), some (.int x2), some (.int x3)] [] (mjTo Z107) _
    refine pG_many 3 (pc1 := 37) (L1 := [some (.ref 185), some (.ref x1), some (.int x2), some (.int x3)]) (st1 := [.int x2, .ref x1, .ref 185]) (M1 := mjTo Z107) (fun _ _ => rfl) ?_
    cases hq108 : f55_push x1 x2 Z107 with
    | none => rw [hq108] at h; cases h
    | some w =>
      obtain ⟨v109, Z110⟩ := w
      rw [hq108, mjBd_some] at h
      refine pG_callV (k2 := 55) (As := [.ref 185, .ref x1, .int x2]) (rest := []) rfl rfl rfl rfl rfl (by rfl) (by decide) (by decide) (f55_push_ok hq108) ?_
      rintro r9 M9 ⟨rfl, rfl⟩
      show pG 59 40 [some (.ref 185), some (.ref x1), some (.int x2), some (.int x3)] [] (mjTo Z110) _
      refine pG_many 3 (pc1 := 43) (L1 := [some (.ref 185), some (.ref x1), some (.int x2), some (.int x3)]) (st1 := [.int 5, .int x2, .ref 185]) (M1 := mjTo Z110) (fun _ _ => rfl) ?_
      by_cases hc111 : mjCmp .eq x2 5 = true
      · rw [if_pos hc111] at h
        refine pG_cmt (t := 51) rfl rfl hc111 ?_
        refine pG_many 2 (pc1 := 56) (L1 := [some (.ref 185), some (.ref x1), some (.int x2), some (.int x3)]) (st1 := [.int 0, .ref 185]) (M1 := mjTo Z110) (fun _ _ => rfl) ?_
        refine pG_putI (ci := 3) (f := 0) rfl rfl rfl rfl (by rfl) (by decide) ?_
        rw [mjLet] at h
        generalize zSi Z110 185 0 0 = Z112 at h ⊢
        refine pG_many 1 (pc1 := 60) (L1 := [some (.ref 185), some (.ref x1), some (.int x2), some (.int x3)]) (st1 := [.int 0]) (M1 := mjTo Z112) (fun _ _ => rfl) ?_
        simp only [Option.some.injEq, Prod.mk.injEq] at h
        obtain ⟨rfl, rfl⟩ := h
        exact pG_ret (r := some (.int 0)) rfl ⟨rfl, rfl⟩
      · rw [if_neg hc111] at h
        refine pG_cmf (t := 51) rfl rfl hc111 ?_
        refine pG_many 2 (pc1 := 48) (L1 := [some (.ref 185), some (.ref x1), some (.int x2), some (.int x3)]) (st1 := [.int 4, .int x2, .ref 185]) (M1 := mjTo Z110) (fun _ _ => rfl) ?_
        by_cases hc113 : mjCmp .ne x2 4 = true
        · rw [if_pos hc113] at h
          refine pG_cmt (t := 55) rfl rfl hc113 ?_
          refine pG_many 1 (pc1 := 56) (L1 := [some (.ref 185), some (.ref x1), some (.int x2), some (.int x3)]) (st1 := [.int 1, .ref 185]) (M1 := mjTo Z110) (fun _ _ => rfl) ?_
          refine pG_putI (ci := 3) (f := 0) rfl rfl rfl rfl (by rfl) (by decide) ?_
          rw [mjLet] at h
          generalize zSi Z110 185 0 1 = Z114 at h ⊢
          refine pG_many 1 (pc1 := 60) (L1 := [some (.ref 185), some (.ref x1), some (.int x2), some (.int x3)]) (st1 := [.int 0]) (M1 := mjTo Z114) (fun _ _ => rfl) ?_
          simp only [Option.some.injEq, Prod.mk.injEq] at h
          obtain ⟨rfl, rfl⟩ := h
          exact pG_ret (r := some (.int 0)) rfl ⟨rfl, rfl⟩
        · rw [if_neg hc113] at h
          refine pG_cmf (t := 55) rfl rfl hc113 ?_
          refine pG_many 2 (pc1 := 56) (L1 := [some (.ref 185), some (.ref x1), some (.int x2), some (.int x3)]) (st1 := [.int 0, .ref 185]) (M1 := mjTo Z110) (fun _ _ => rfl) ?_
          refine pG_putI (ci := 3) (f := 0) rfl rfl rfl rfl (by rfl) (by decide) ?_
          rw [mjLet] at h
          generalize zSi Z110 185 0 0 = Z115 at h ⊢
          refine pG_many 1 (pc1 := 60) (L1 := [some (.ref 185), some (.ref x1), some (.int x2), some (.int x3)]) (st1 := [.int 0]) (M1 := mjTo Z115) (fun _ _ => rfl) ?_
          simp only [Option.some.injEq, Prod.mk.injEq] at h
          obtain ⟨rfl, rfl⟩ := h
          exact pG_ret (r := some (.int 0)) rfl ⟨rfl, rfl⟩
def f59_join (p0 : Nat) (p1 : Int32) (p2 : Int32) (Z : mjZt) : Option (Int32 × mjZt) :=
  mjBp (f58_isComparison p1 Z) fun v102 =>
  if mjCmp .eq v102 0 = true then
    f59_join_j28 p0 p1 p2 Z
  else
    if mjCmp .ne (Z.1 185 3) 0 = true then
      some (2, Z)
    else
      if mjCmp .le (Z.1 185 2) 0 = true then
        mjLet (zSi Z 185 3 1) fun Z118 =>
        f59_join_j28 p0 p1 p2 Z118
      else
        some (2, Z)
theorem f59_join_ok {p0 : Nat} {p1 : Int32} {p2 : Int32} {Z : mjZt} {v9 : Int32} {Z9 : mjZt} (h : f59_join p0 p1 p2 Z = some (v9, Z9)) : pG 59 0 (mjEnt [.ref 185, .ref p0, .int p1, .int p2] (mjML 59)) [] (mjTo Z) (fun r M1 => r = some (.int v9) ∧ M1 = mjTo Z9) := by
  unfold f59_join at h
  show pG 59 0 [some (.ref 185), some (.ref p0), some (.int p1), some (.int p2)] [] (mjTo Z) _
  refine pG_many 1 (pc1 := 1) (L1 := [some (.ref 185), some (.ref p0), some (.int p1), some (.int p2)]) (st1 := [.int p1]) (M1 := mjTo Z) (fun _ _ => rfl) ?_
  cases hq101 : f58_isComparison p1 Z with
  | none => rw [hq101] at h; cases h
  | some v102 =>
    rw [hq101, mjBp_some] at h
    refine pG_call (k2 := 58) (As := [.int p1]) (rest := []) (fun _ _ => rfl) (by decide) (by decide) (f58_isComparison_ok hq101) ?_
    rintro r9 M9 ⟨rfl, rfl⟩
    show pG 59 4 [some (.ref 185), some (.ref p0), some (.int p1), some (.int p2)] [.int v102] (mjTo Z) _
    by_cases hc104 : mjCmp .eq v102 0 = true
    · rw [if_pos hc104] at h
      refine pG_ift (t := 28) rfl rfl hc104 ?_
      exact f59_join_j28_ok p0 p1 p2 Z v9 Z9 h
    · rw [if_neg hc104] at h
      refine pG_iff (t := 28) rfl rfl hc104 ?_
      refine pG_many 1 (pc1 := 8) (L1 := [some (.ref 185), some (.ref p0), some (.int p1), some (.int p2)]) (st1 := [.ref 185]) (M1 := mjTo Z) (fun _ _ => rfl) ?_
      refine pG_getI (ci := 3) (f := 3) rfl rfl (Or.inr rfl) (by rfl) (by decide) ?_
      by_cases hc116 : mjCmp .ne (Z.1 185 3) 0 = true
      · rw [if_pos hc116] at h
        refine pG_ift (t := 21) rfl rfl hc116 ?_
        refine pG_many 1 (pc1 := 22) (L1 := [some (.ref 185), some (.ref p0), some (.int p1), some (.int p2)]) (st1 := [.int 2]) (M1 := mjTo Z) (fun _ _ => rfl) ?_
        simp only [Option.some.injEq, Prod.mk.injEq] at h
        obtain ⟨rfl, rfl⟩ := h
        exact pG_ret (r := some (.int 2)) rfl ⟨rfl, rfl⟩
      · rw [if_neg hc116] at h
        refine pG_iff (t := 21) rfl rfl hc116 ?_
        refine pG_many 1 (pc1 := 15) (L1 := [some (.ref 185), some (.ref p0), some (.int p1), some (.int p2)]) (st1 := [.ref 185]) (M1 := mjTo Z) (fun _ _ => rfl) ?_
        refine pG_getI (ci := 3) (f := 2) rfl rfl (Or.inl rfl) (by rfl) (by decide) ?_
        by_cases hc117 : mjCmp .le (Z.1 185 2) 0 = true
        · rw [if_pos hc117] at h
          refine pG_ift (t := 23) rfl rfl hc117 ?_
          refine pG_many 2 (pc1 := 25) (L1 := [some (.ref 185), some (.ref p0), some (.int p1), some (.int p2)]) (st1 := [.int 1, .ref 185]) (M1 := mjTo Z) (fun _ _ => rfl) ?_
          refine pG_putZ (ci := 3) (f := 3) rfl rfl rfl rfl (by rfl) (by decide) (Or.inr rfl) ?_
          rw [mjLet] at h
          generalize zSi Z 185 3 1 = Z118 at h ⊢
          exact f59_join_j28_ok p0 p1 p2 Z118 v9 Z9 h
        · rw [if_neg hc117] at h
          refine pG_iff (t := 23) rfl rfl hc117 ?_
          refine pG_many 1 (pc1 := 22) (L1 := [some (.ref 185), some (.ref p0), some (.int p1), some (.int p2)]) (st1 := [.int 2]) (M1 := mjTo Z) (fun _ _ => rfl) ?_
          simp only [Option.some.injEq, Prod.mk.injEq] at h
          obtain ⟨rfl, rfl⟩ := h
          exact pG_ret (r := some (.int 2)) rfl ⟨rfl, rfl⟩
def f60_closeCurly (p0 : Nat) (Z : mjZt) : Option (Int32 × mjZt) :=
  if mjCmp .ne (Z.1 185 2) 0 = true then
    mjBd (f49_reduce p0 4 Z) fun _ Z104 =>
    mjLet (zSi Z104 185 2 ((Z104.1 185 2) - 1)) fun Z105 =>
    mjLet (zSi Z105 185 1 ((Z105.1 185 1) - 1)) fun Z106 =>
    mjLet (zSi Z106 185 6 ((Z106.1 185 6) - 1)) fun Z107 =>
    some (0, Z107)
  else
    some (2, Z)
theorem f60_closeCurly_ok {p0 : Nat} {Z : mjZt} {v9 : Int32} {Z9 : mjZt} (h : f60_closeCurly p0 Z = some (v9, Z9)) : pG 60 0 (mjEnt [.ref 185, .ref p0] (mjML 60)) [] (mjTo Z) (fun r M1 => r = some (.int v9) ∧ M1 = mjTo Z9) := by
  unfold f60_closeCurly at h
  show pG 60 0 [some (.ref 185), some (.ref p0)] [] (mjTo Z) _
  refine pG_many 1 (pc1 := 1) (L1 := [some (.ref 185), some (.ref p0)]) (st1 := [.ref 185]) (M1 := mjTo Z) (fun _ _ => rfl) ?_
  refine pG_getI (ci := 3) (f := 2) rfl rfl (Or.inl rfl) (by rfl) (by decide) ?_
  by_cases hc101 : mjCmp .ne (Z.1 185 2) 0 = true
  · rw [if_pos hc101] at h
    refine pG_ift (t := 9) rfl rfl hc101 ?_
    refine pG_many 3 (pc1 := 12) (L1 := [some (.ref 185), some (.ref p0)]) (st1 := [.int 4, .ref p0, .ref 185]) (M1 := mjTo Z) (fun _ _ => rfl) ?_
    cases hq102 : f49_reduce p0 4 Z with
    | none => rw [hq102] at h; cases h
    | some w =>
      obtain ⟨v103, Z104⟩ := w
      rw [hq102, mjBd_some] at h
      refine pG_callV (k2 := 49) (As := [.ref 185, .ref p0, .int 4]) (rest := []) rfl rfl rfl rfl rfl (by rfl) (by decide) (by decide) (f49_reduce_ok hq102) ?_
      rintro r9 M9 ⟨rfl, rfl⟩
      show pG 60 15 [some (.ref 185), some (.ref p0)] [] (mjTo Z104) _
      refine pG_many 2 (pc1 := 17) (L1 := [some (.ref 185), some (.ref p0)]) (st1 := [.ref 185, .ref 185]) (M1 := mjTo Z104) (fun _ _ => rfl) ?_
      refine pG_getI (ci := 3) (f := 2) rfl rfl (Or.inl rfl) (by rfl) (by decide) ?_
      refine pG_many 2 (pc1 := 22) (L1 := [some (.ref 185), some (.ref p0)]) (st1 := [.int ((Z104.1 185 2) - 1), .ref 185]) (M1 := mjTo Z104) (fun _ _ => rfl) ?_
      refine pG_putI (ci := 3) (f := 2) rfl rfl rfl rfl (by rfl) (by decide) ?_
      rw [mjLet] at h
      generalize zSi Z104 185 2 ((Z104.1 185 2) - 1) = Z105 at h ⊢
      refine pG_many 2 (pc1 := 27) (L1 := [some (.ref 185), some (.ref p0)]) (st1 := [.ref 185, .ref 185]) (M1 := mjTo Z105) (fun _ _ => rfl) ?_
      refine pG_getI (ci := 3) (f := 1) rfl rfl (Or.inl rfl) (by rfl) (by decide) ?_
      refine pG_many 2 (pc1 := 32) (L1 := [some (.ref 185), some (.ref p0)]) (st1 := [.int ((Z105.1 185 1) - 1), .ref 185]) (M1 := mjTo Z105) (fun _ _ => rfl) ?_
      refine pG_putI (ci := 3) (f := 1) rfl rfl rfl rfl (by rfl) (by decide) ?_
      rw [mjLet] at h
      generalize zSi Z105 185 1 ((Z105.1 185 1) - 1) = Z106 at h ⊢
      refine pG_many 2 (pc1 := 37) (L1 := [some (.ref 185), some (.ref p0)]) (st1 := [.ref 185, .ref 185]) (M1 := mjTo Z106) (fun _ _ => rfl) ?_
      refine pG_getI (ci := 3) (f := 6) rfl rfl (Or.inl rfl) (by rfl) (by decide) ?_
      refine pG_many 2 (pc1 := 42) (L1 := [some (.ref 185), some (.ref p0)]) (st1 := [.int ((Z106.1 185 6) - 1), .ref 185]) (M1 := mjTo Z106) (fun _ _ => rfl) ?_
      refine pG_putI (ci := 3) (f := 6) rfl rfl rfl rfl (by rfl) (by decide) ?_
      rw [mjLet] at h
      generalize zSi Z106 185 6 ((Z106.1 185 6) - 1) = Z107 at h ⊢
      refine pG_many 1 (pc1 := 46) (L1 := [some (.ref 185), some (.ref p0)]) (st1 := [.int 0]) (M1 := mjTo Z107) (fun _ _ => rfl) ?_
      simp only [Option.some.injEq, Prod.mk.injEq] at h
      obtain ⟨rfl, rfl⟩ := h
      exact pG_ret (r := some (.int 0)) rfl ⟨rfl, rfl⟩
  · rw [if_neg hc101] at h
    refine pG_iff (t := 9) rfl rfl hc101 ?_
    refine pG_many 1 (pc1 := 8) (L1 := [some (.ref 185), some (.ref p0)]) (st1 := [.int 2]) (M1 := mjTo Z) (fun _ _ => rfl) ?_
    simp only [Option.some.injEq, Prod.mk.injEq] at h
    obtain ⟨rfl, rfl⟩ := h
    exact pG_ret (r := some (.int 2)) rfl ⟨rfl, rfl⟩
def f61_goOnWithNumber (p1 : Nat) (Z : mjZt) : Option (Int32 × mjZt) :=
  if (Z.1 183 3) = 42 then
    mjBd (f59_join p1 12 12 Z) fun v103 Z104 =>
    some (v103, Z104)
  else if (Z.1 183 3) = 43 then
    mjBd (f59_join p1 10 10 Z) fun v107 Z108 =>
    some (v107, Z108)
  else if (Z.1 183 3) = 45 then
    mjBd (f59_join p1 11 10 Z) fun v111 Z112 =>
    some (v111, Z112)
  else if (Z.1 183 3) = 60 then
    mjBd (f59_join p1 7 7 Z) fun v115 Z116 =>
    some (v115, Z116)
  else if (Z.1 183 3) = 61 then
    mjBd (f59_join p1 9 7 Z) fun v119 Z120 =>
    some (v119, Z120)
  else if (Z.1 183 3) = 62 then
    mjBd (f59_join p1 8 7 Z) fun v123 Z124 =>
    some (v123, Z124)
  else if (Z.1 183 3) = 125 then
    mjBd (f60_closeCurly p1 Z) fun v127 Z128 =>
    some (v127, Z128)
  else
    some (2, Z)
theorem f61_goOnWithNumber_ok {p1 : Nat} {Z : mjZt} {v9 : Int32} {Z9 : mjZt} (h : f61_goOnWithNumber p1 Z = some (v9, Z9)) : pG 61 0 (mjEnt [.ref 185, .ref 183, .ref p1] (mjML 61)) [] (mjTo Z) (fun r M1 => r = some (.int v9) ∧ M1 = mjTo Z9) := by
  unfold f61_goOnWithNumber at h
  show pG 61 0 [some (.ref 185), some (.ref 183), some (.ref p1)] [] (mjTo Z) _
  refine pG_many 1 (pc1 := 1) (L1 := [some (.ref 185), some (.ref 183), some (.ref p1)]) (st1 := [.ref 183]) (M1 := mjTo Z) (fun _ _ => rfl) ?_
  refine pG_getI (ci := 9) (f := 3) rfl rfl (Or.inl rfl) (by rfl) (by decide) ?_
  by_cases hs101 : (Z.1 183 3) = 42
  · rw [if_pos hs101] at h
    refine pG_lsi (t := 92) (o := 88) rfl rfl (by show Op.lookupswitch.offset [(42, 88), (43, 68), (45, 78), (60, 98), (61, 118), (62, 108), (125, 128)] 134 (Z.1 183 3).toInt = 88; rw [hs101]; rfl) rfl ?_
    refine pG_many 4 (pc1 := 98) (L1 := [some (.ref 185), some (.ref 183), some (.ref p1)]) (st1 := [.int 12, .int 12, .ref p1, .ref 185]) (M1 := mjTo Z) (fun _ _ => rfl) ?_
    cases hq102 : f59_join p1 12 12 Z with
    | none => rw [hq102] at h; cases h
    | some w =>
      obtain ⟨v103, Z104⟩ := w
      rw [hq102, mjBd_some] at h
      refine pG_callV (k2 := 59) (As := [.ref 185, .ref p1, .int 12, .int 12]) (rest := []) rfl rfl rfl rfl rfl (by rfl) (by decide) (by decide) (f59_join_ok hq102) ?_
      rintro r9 M9 ⟨rfl, rfl⟩
      show pG 61 101 [some (.ref 185), some (.ref 183), some (.ref p1)] [.int v103] (mjTo Z104) _
      simp only [Option.some.injEq, Prod.mk.injEq] at h
      obtain ⟨rfl, rfl⟩ := h
      exact pG_ret (r := some (.int v103)) rfl ⟨rfl, rfl⟩
  rw [if_neg hs101] at h
  by_cases hs105 : (Z.1 183 3) = 43
  · rw [if_pos hs105] at h
    refine pG_lsi (t := 72) (o := 68) rfl rfl (by show Op.lookupswitch.offset [(42, 88), (43, 68), (45, 78), (60, 98), (61, 118), (62, 108), (125, 128)] 134 (Z.1 183 3).toInt = 68; rw [lv_osw (a := 42) hs101 rfl]; rw [hs105]; rfl) rfl ?_
    refine pG_many 4 (pc1 := 78) (L1 := [some (.ref 185), some (.ref 183), some (.ref p1)]) (st1 := [.int 10, .int 10, .ref p1, .ref 185]) (M1 := mjTo Z) (fun _ _ => rfl) ?_
    cases hq106 : f59_join p1 10 10 Z with
    | none => rw [hq106] at h; cases h
    | some w =>
      obtain ⟨v107, Z108⟩ := w
      rw [hq106, mjBd_some] at h
      refine pG_callV (k2 := 59) (As := [.ref 185, .ref p1, .int 10, .int 10]) (rest := []) rfl rfl rfl rfl rfl (by rfl) (by decide) (by decide) (f59_join_ok hq106) ?_
      rintro r9 M9 ⟨rfl, rfl⟩
      show pG 61 81 [some (.ref 185), some (.ref 183), some (.ref p1)] [.int v107] (mjTo Z108) _
      simp only [Option.some.injEq, Prod.mk.injEq] at h
      obtain ⟨rfl, rfl⟩ := h
      exact pG_ret (r := some (.int v107)) rfl ⟨rfl, rfl⟩
  rw [if_neg hs105] at h
  by_cases hs109 : (Z.1 183 3) = 45
  · rw [if_pos hs109] at h
    refine pG_lsi (t := 82) (o := 78) rfl rfl (by show Op.lookupswitch.offset [(42, 88), (43, 68), (45, 78), (60, 98), (61, 118), (62, 108), (125, 128)] 134 (Z.1 183 3).toInt = 78; rw [lv_osw (a := 42) hs101 rfl]; rw [lv_osw (a := 43) hs105 rfl]; rw [hs109]; rfl) rfl ?_
    refine pG_many 4 (pc1 := 88) (L1 := [some (.ref 185), some (.ref 183), some (.ref p1)]) (st1 := [.int 10, .int 11, .ref p1, .ref 185]) (M1 := mjTo Z) (fun _ _ => rfl) ?_
    cases hq110 : f59_join p1 11 10 Z with
    | none => rw [hq110] at h; cases h
    | some w =>
      obtain ⟨v111, Z112⟩ := w
      rw [hq110, mjBd_some] at h
      refine pG_callV (k2 := 59) (As := [.ref 185, .ref p1, .int 11, .int 10]) (rest := []) rfl rfl rfl rfl rfl (by rfl) (by decide) (by decide) (f59_join_ok hq110) ?_
      rintro r9 M9 ⟨rfl, rfl⟩
      show pG 61 91 [some (.ref 185), some (.ref 183), some (.ref p1)] [.int v111] (mjTo Z112) _
      simp only [Option.some.injEq, Prod.mk.injEq] at h
      obtain ⟨rfl, rfl⟩ := h
      exact pG_ret (r := some (.int v111)) rfl ⟨rfl, rfl⟩
  rw [if_neg hs109] at h
  by_cases hs113 : (Z.1 183 3) = 60
  · rw [if_pos hs113] at h
    refine pG_lsi (t := 102) (o := 98) rfl rfl (by show Op.lookupswitch.offset [(42, 88), (43, 68), (45, 78), (60, 98), (61, 118), (62, 108), (125, 128)] 134 (Z.1 183 3).toInt = 98; rw [lv_osw (a := 42) hs101 rfl]; rw [lv_osw (a := 43) hs105 rfl]; rw [lv_osw (a := 45) hs109 rfl]; rw [hs113]; rfl) rfl ?_
    refine pG_many 4 (pc1 := 108) (L1 := [some (.ref 185), some (.ref 183), some (.ref p1)]) (st1 := [.int 7, .int 7, .ref p1, .ref 185]) (M1 := mjTo Z) (fun _ _ => rfl) ?_
    cases hq114 : f59_join p1 7 7 Z with
    | none => rw [hq114] at h; cases h
    | some w =>
      obtain ⟨v115, Z116⟩ := w
      rw [hq114, mjBd_some] at h
      refine pG_callV (k2 := 59) (As := [.ref 185, .ref p1, .int 7, .int 7]) (rest := []) rfl rfl rfl rfl rfl (by rfl) (by decide) (by decide) (f59_join_ok hq114) ?_
      rintro r9 M9 ⟨rfl, rfl⟩
      show pG 61 111 [some (.ref 185), some (.ref 183), some (.ref p1)] [.int v115] (mjTo Z116) _
      simp only [Option.some.injEq, Prod.mk.injEq] at h
      obtain ⟨rfl, rfl⟩ := h
      exact pG_ret (r := some (.int v115)) rfl ⟨rfl, rfl⟩
  rw [if_neg hs113] at h
  by_cases hs117 : (Z.1 183 3) = 61
  · rw [if_pos hs117] at h
    refine pG_lsi (t := 122) (o := 118) rfl rfl (by show Op.lookupswitch.offset [(42, 88), (43, 68), (45, 78), (60, 98), (61, 118), (62, 108), (125, 128)] 134 (Z.1 183 3).toInt = 118; rw [lv_osw (a := 42) hs101 rfl]; rw [lv_osw (a := 43) hs105 rfl]; rw [lv_osw (a := 45) hs109 rfl]; rw [lv_osw (a := 60) hs113 rfl]; rw [hs117]; rfl) rfl ?_
    refine pG_many 4 (pc1 := 128) (L1 := [some (.ref 185), some (.ref 183), some (.ref p1)]) (st1 := [.int 7, .int 9, .ref p1, .ref 185]) (M1 := mjTo Z) (fun _ _ => rfl) ?_
    cases hq118 : f59_join p1 9 7 Z with
    | none => rw [hq118] at h; cases h
    | some w =>
      obtain ⟨v119, Z120⟩ := w
      rw [hq118, mjBd_some] at h
      refine pG_callV (k2 := 59) (As := [.ref 185, .ref p1, .int 9, .int 7]) (rest := []) rfl rfl rfl rfl rfl (by rfl) (by decide) (by decide) (f59_join_ok hq118) ?_
      rintro r9 M9 ⟨rfl, rfl⟩
      show pG 61 131 [some (.ref 185), some (.ref 183), some (.ref p1)] [.int v119] (mjTo Z120) _
      simp only [Option.some.injEq, Prod.mk.injEq] at h
      obtain ⟨rfl, rfl⟩ := h
      exact pG_ret (r := some (.int v119)) rfl ⟨rfl, rfl⟩
  rw [if_neg hs117] at h
  by_cases hs121 : (Z.1 183 3) = 62
  · rw [if_pos hs121] at h
    refine pG_lsi (t := 112) (o := 108) rfl rfl (by show Op.lookupswitch.offset [(42, 88), (43, 68), (45, 78), (60, 98), (61, 118), (62, 108), (125, 128)] 134 (Z.1 183 3).toInt = 108; rw [lv_osw (a := 42) hs101 rfl]; rw [lv_osw (a := 43) hs105 rfl]; rw [lv_osw (a := 45) hs109 rfl]; rw [lv_osw (a := 60) hs113 rfl]; rw [lv_osw (a := 61) hs117 rfl]; rw [hs121]; rfl) rfl ?_
    refine pG_many 4 (pc1 := 118) (L1 := [some (.ref 185), some (.ref 183), some (.ref p1)]) (st1 := [.int 7, .int 8, .ref p1, .ref 185]) (M1 := mjTo Z) (fun _ _ => rfl) ?_
    cases hq122 : f59_join p1 8 7 Z with
    | none => rw [hq122] at h; cases h
    | some w =>
      obtain ⟨v123, Z124⟩ := w
      rw [hq122, mjBd_some] at h
      refine pG_callV (k2 := 59) (As := [.ref 185, .ref p1, .int 8, .int 7]) (rest := []) rfl rfl rfl rfl rfl (by rfl) (by decide) (by decide) (f59_join_ok hq122) ?_
      rintro r9 M9 ⟨rfl, rfl⟩
      show pG 61 121 [some (.ref 185), some (.ref 183), some (.ref p1)] [.int v123] (mjTo Z124) _
      simp only [Option.some.injEq, Prod.mk.injEq] at h
      obtain ⟨rfl, rfl⟩ := h
      exact pG_ret (r := some (.int v123)) rfl ⟨rfl, rfl⟩
  rw [if_neg hs121] at h
  by_cases hs125 : (Z.1 183 3) = 125
  · rw [if_pos hs125] at h
    refine pG_lsi (t := 132) (o := 128) rfl rfl (by show Op.lookupswitch.offset [(42, 88), (43, 68), (45, 78), (60, 98), (61, 118), (62, 108), (125, 128)] 134 (Z.1 183 3).toInt = 128; rw [lv_osw (a := 42) hs101 rfl]; rw [lv_osw (a := 43) hs105 rfl]; rw [lv_osw (a := 45) hs109 rfl]; rw [lv_osw (a := 60) hs113 rfl]; rw [lv_osw (a := 61) hs117 rfl]; rw [lv_osw (a := 62) hs121 rfl]; rw [hs125]; rfl) rfl ?_
    refine pG_many 2 (pc1 := 134) (L1 := [some (.ref 185), some (.ref 183), some (.ref p1)]) (st1 := [.ref p1, .ref 185]) (M1 := mjTo Z) (fun _ _ => rfl) ?_
    cases hq126 : f60_closeCurly p1 Z with
    | none => rw [hq126] at h; cases h
    | some w =>
      obtain ⟨v127, Z128⟩ := w
      rw [hq126, mjBd_some] at h
      refine pG_callV (k2 := 60) (As := [.ref 185, .ref p1]) (rest := []) rfl rfl rfl rfl rfl (by rfl) (by decide) (by decide) (f60_closeCurly_ok hq126) ?_
      rintro r9 M9 ⟨rfl, rfl⟩
      show pG 61 137 [some (.ref 185), some (.ref 183), some (.ref p1)] [.int v127] (mjTo Z128) _
      simp only [Option.some.injEq, Prod.mk.injEq] at h
      obtain ⟨rfl, rfl⟩ := h
      exact pG_ret (r := some (.int v127)) rfl ⟨rfl, rfl⟩
  rw [if_neg hs125] at h
  refine pG_lsi (t := 138) (o := 134) rfl rfl (by show Op.lookupswitch.offset [(42, 88), (43, 68), (45, 78), (60, 98), (61, 118), (62, 108), (125, 128)] 134 (Z.1 183 3).toInt = 134; rw [lv_osw (a := 42) hs101 rfl]; rw [lv_osw (a := 43) hs105 rfl]; rw [lv_osw (a := 45) hs109 rfl]; rw [lv_osw (a := 60) hs113 rfl]; rw [lv_osw (a := 61) hs117 rfl]; rw [lv_osw (a := 62) hs121 rfl]; rw [lv_osw (a := 125) hs125 rfl]; rfl) rfl ?_
  refine pG_many 1 (pc1 := 139) (L1 := [some (.ref 185), some (.ref 183), some (.ref p1)]) (st1 := [.int 2]) (M1 := mjTo Z) (fun _ _ => rfl) ?_
  simp only [Option.some.injEq, Prod.mk.injEq] at h
  obtain ⟨rfl, rfl⟩ := h
  exact pG_ret (r := some (.int 2)) rfl ⟨rfl, rfl⟩
def f62_goOnWithTruth (p1 : Nat) (Z : mjZt) : Option (Int32 × mjZt) :=
  if mjCmp .ne (Z.1 183 3) 41 = true then
    mjBp (f51_indexIn 1000000 Z) fun v103 =>
    if mjCmp .ne v103 2 = true then
      mjBd (f59_join p1 4 4 Z) fun v107 Z108 =>
      some (v107, Z108)
    else
      mjBd (f59_join p1 5 5 Z) fun v110 Z111 =>
      some (v110, Z111)
  else
    mjBd (f49_reduce p1 4 Z) fun _ Z114 =>
    mjLet (zSi Z114 185 1 ((Z114.1 185 1) - 1)) fun Z115 =>
    mjLet (zSi Z115 185 6 ((Z115.1 185 6) - 1)) fun Z116 =>
    mjBd (f49_reduce p1 6 Z116) fun _ Z119 =>
    some (0, Z119)
theorem f62_goOnWithTruth_ok {p1 : Nat} {Z : mjZt} {v9 : Int32} {Z9 : mjZt} (h : f62_goOnWithTruth p1 Z = some (v9, Z9)) : pG 62 0 (mjEnt [.ref 185, .ref 183, .ref p1] (mjML 62)) [] (mjTo Z) (fun r M1 => r = some (.int v9) ∧ M1 = mjTo Z9) := by
  unfold f62_goOnWithTruth at h
  show pG 62 0 [some (.ref 185), some (.ref 183), some (.ref p1), none] [] (mjTo Z) _
  refine pG_many 1 (pc1 := 1) (L1 := [some (.ref 185), some (.ref 183), some (.ref p1), none]) (st1 := [.ref 183]) (M1 := mjTo Z) (fun _ _ => rfl) ?_
  refine pG_getI (ci := 9) (f := 3) rfl rfl (Or.inl rfl) (by rfl) (by decide) ?_
  refine pG_many 1 (pc1 := 6) (L1 := [some (.ref 185), some (.ref 183), some (.ref p1), none]) (st1 := [.int 41, .int (Z.1 183 3)]) (M1 := mjTo Z) (fun _ _ => rfl) ?_
  by_cases hc101 : mjCmp .ne (Z.1 183 3) 41 = true
  · rw [if_pos hc101] at h
    refine pG_cmt (t := 44) rfl rfl hc101 ?_
    refine pG_many 2 (pc1 := 47) (L1 := [some (.ref 185), some (.ref 183), some (.ref p1), none]) (st1 := [.ref 1000000, .ref 183]) (M1 := mjTo Z) (fun _ _ => rfl) ?_
    cases hq102 : f51_indexIn 1000000 Z with
    | none => rw [hq102] at h; cases h
    | some v103 =>
      rw [hq102, mjBp_some] at h
      refine pG_callV (k2 := 51) (As := [.ref 183, .ref 1000000]) (rest := []) rfl rfl rfl rfl rfl (by rfl) (by decide) (by decide) (f51_indexIn_ok hq102) ?_
      rintro r9 M9 ⟨rfl, rfl⟩
      show pG 62 50 [some (.ref 185), some (.ref 183), some (.ref p1), none] [.int v103] (mjTo Z) _
      refine pG_many 1 (pc1 := 51) (L1 := [some (.ref 185), some (.ref 183), some (.ref p1), none]) (st1 := [.int 2, .int v103]) (M1 := mjTo Z) (fun _ _ => rfl) ?_
      by_cases hc105 : mjCmp .ne v103 2 = true
      · rw [if_pos hc105] at h
        refine pG_cmt (t := 58) rfl rfl hc105 ?_
        refine pG_many 6 (pc1 := 64) (L1 := [some (.ref 185), some (.ref 183), some (.ref p1), some (.int 4)]) (st1 := [.int 4, .int 4, .ref p1, .ref 185]) (M1 := mjTo Z) (fun _ _ => rfl) ?_
        cases hq106 : f59_join p1 4 4 Z with
        | none => rw [hq106] at h; cases h
        | some w =>
          obtain ⟨v107, Z108⟩ := w
          rw [hq106, mjBd_some] at h
          refine pG_callV (k2 := 59) (As := [.ref 185, .ref p1, .int 4, .int 4]) (rest := []) rfl rfl rfl rfl rfl (by rfl) (by decide) (by decide) (f59_join_ok hq106) ?_
          rintro r9 M9 ⟨rfl, rfl⟩
          show pG 62 67 [some (.ref 185), some (.ref 183), some (.ref p1), some (.int 4)] [.int v107] (mjTo Z108) _
          simp only [Option.some.injEq, Prod.mk.injEq] at h
          obtain ⟨rfl, rfl⟩ := h
          exact pG_ret (r := some (.int v107)) rfl ⟨rfl, rfl⟩
      · rw [if_neg hc105] at h
        refine pG_cmf (t := 58) rfl rfl hc105 ?_
        refine pG_many 7 (pc1 := 64) (L1 := [some (.ref 185), some (.ref 183), some (.ref p1), some (.int 5)]) (st1 := [.int 5, .int 5, .ref p1, .ref 185]) (M1 := mjTo Z) (fun _ _ => rfl) ?_
        cases hq109 : f59_join p1 5 5 Z with
        | none => rw [hq109] at h; cases h
        | some w =>
          obtain ⟨v110, Z111⟩ := w
          rw [hq109, mjBd_some] at h
          refine pG_callV (k2 := 59) (As := [.ref 185, .ref p1, .int 5, .int 5]) (rest := []) rfl rfl rfl rfl rfl (by rfl) (by decide) (by decide) (f59_join_ok hq109) ?_
          rintro r9 M9 ⟨rfl, rfl⟩
          show pG 62 67 [some (.ref 185), some (.ref 183), some (.ref p1), some (.int 5)] [.int v110] (mjTo Z111) _
          simp only [Option.some.injEq, Prod.mk.injEq] at h
          obtain ⟨rfl, rfl⟩ := h
          exact pG_ret (r := some (.int v110)) rfl ⟨rfl, rfl⟩
  · rw [if_neg hc101] at h
    refine pG_cmf (t := 44) rfl rfl hc101 ?_
    refine pG_many 3 (pc1 := 12) (L1 := [some (.ref 185), some (.ref 183), some (.ref p1), none]) (st1 := [.int 4, .ref p1, .ref 185]) (M1 := mjTo Z) (fun _ _ => rfl) ?_
    cases hq112 : f49_reduce p1 4 Z with
    | none => rw [hq112] at h; cases h
    | some w =>
      obtain ⟨v113, Z114⟩ := w
      rw [hq112, mjBd_some] at h
      refine pG_callV (k2 := 49) (As := [.ref 185, .ref p1, .int 4]) (rest := []) rfl rfl rfl rfl rfl (by rfl) (by decide) (by decide) (f49_reduce_ok hq112) ?_
      rintro r9 M9 ⟨rfl, rfl⟩
      show pG 62 15 [some (.ref 185), some (.ref 183), some (.ref p1), none] [] (mjTo Z114) _
      refine pG_many 2 (pc1 := 17) (L1 := [some (.ref 185), some (.ref 183), some (.ref p1), none]) (st1 := [.ref 185, .ref 185]) (M1 := mjTo Z114) (fun _ _ => rfl) ?_
      refine pG_getI (ci := 3) (f := 1) rfl rfl (Or.inl rfl) (by rfl) (by decide) ?_
      refine pG_many 2 (pc1 := 22) (L1 := [some (.ref 185), some (.ref 183), some (.ref p1), none]) (st1 := [.int ((Z114.1 185 1) - 1), .ref 185]) (M1 := mjTo Z114) (fun _ _ => rfl) ?_
      refine pG_putI (ci := 3) (f := 1) rfl rfl rfl rfl (by rfl) (by decide) ?_
      rw [mjLet] at h
      generalize zSi Z114 185 1 ((Z114.1 185 1) - 1) = Z115 at h ⊢
      refine pG_many 2 (pc1 := 27) (L1 := [some (.ref 185), some (.ref 183), some (.ref p1), none]) (st1 := [.ref 185, .ref 185]) (M1 := mjTo Z115) (fun _ _ => rfl) ?_
      refine pG_getI (ci := 3) (f := 6) rfl rfl (Or.inl rfl) (by rfl) (by decide) ?_
      refine pG_many 2 (pc1 := 32) (L1 := [some (.ref 185), some (.ref 183), some (.ref p1), none]) (st1 := [.int ((Z115.1 185 6) - 1), .ref 185]) (M1 := mjTo Z115) (fun _ _ => rfl) ?_
      refine pG_putI (ci := 3) (f := 6) rfl rfl rfl rfl (by rfl) (by decide) ?_
      rw [mjLet] at h
      generalize zSi Z115 185 6 ((Z115.1 185 6) - 1) = Z116 at h ⊢
      refine pG_many 3 (pc1 := 39) (L1 := [some (.ref 185), some (.ref 183), some (.ref p1), none]) (st1 := [.int 6, .ref p1, .ref 185]) (M1 := mjTo Z116) (fun _ _ => rfl) ?_
      cases hq117 : f49_reduce p1 6 Z116 with
      | none => rw [hq117] at h; cases h
      | some w =>
        obtain ⟨v118, Z119⟩ := w
        rw [hq117, mjBd_some] at h
        refine pG_callV (k2 := 49) (As := [.ref 185, .ref p1, .int 6]) (rest := []) rfl rfl rfl rfl rfl (by rfl) (by decide) (by decide) (f49_reduce_ok hq117) ?_
        rintro r9 M9 ⟨rfl, rfl⟩
        show pG 62 42 [some (.ref 185), some (.ref 183), some (.ref p1), none] [] (mjTo Z119) _
        refine pG_many 1 (pc1 := 43) (L1 := [some (.ref 185), some (.ref 183), some (.ref p1), none]) (st1 := [.int 0]) (M1 := mjTo Z119) (fun _ _ => rfl) ?_
        simp only [Option.some.injEq, Prod.mk.injEq] at h
        obtain ⟨rfl, rfl⟩ := h
        exact pG_ret (r := some (.int 0)) rfl ⟨rfl, rfl⟩
def f63_byteAt (p0 : Int32) (Z : mjZt) : Option Int32 :=
  if mjCmp .lt p0 0 = true then
    some 0
  else
    if mjCmp .ge p0 (Z.1 183 1) = true then
      some 0
    else
      if mjIs Z.2.2.2 211 13 = true then
      if mjCmp .ge p0 (Int32.ofNat (mjLay Z.2.2.2).2) = true then
        some 0
      else
        if mjIn p0 (mjLay Z.2.2.2).2 = true then
        some (Z.1 Z.2.2.2 (mjIx p0))
        else none
      else none
theorem f63_byteAt_ok {p0 : Int32} {Z : mjZt} {v9 : Int32} (h : f63_byteAt p0 Z = some v9) : pG 63 0 (mjEnt [.ref 183, .int p0] (mjML 63)) [] (mjTo Z) (fun r M1 => r = some (.int v9) ∧ M1 = mjTo Z) := by
  unfold f63_byteAt at h
  show pG 63 0 [some (.ref 183), some (.int p0)] [] (mjTo Z) _
  refine pG_many 1 (pc1 := 1) (L1 := [some (.ref 183), some (.int p0)]) (st1 := [.int p0]) (M1 := mjTo Z) (fun _ _ => rfl) ?_
  by_cases hc101 : mjCmp .lt p0 0 = true
  · rw [if_pos hc101] at h
    refine pG_ift (t := 30) rfl rfl hc101 ?_
    refine pG_many 1 (pc1 := 31) (L1 := [some (.ref 183), some (.int p0)]) (st1 := [.int 0]) (M1 := mjTo Z) (fun _ _ => rfl) ?_
    simp only [Option.some.injEq] at h
    subst h
    exact pG_ret (r := some (.int 0)) rfl ⟨rfl, rfl⟩
  · rw [if_neg hc101] at h
    refine pG_iff (t := 30) rfl rfl hc101 ?_
    refine pG_many 2 (pc1 := 6) (L1 := [some (.ref 183), some (.int p0)]) (st1 := [.ref 183, .int p0]) (M1 := mjTo Z) (fun _ _ => rfl) ?_
    refine pG_getI (ci := 9) (f := 1) rfl rfl (Or.inl rfl) (by rfl) (by decide) ?_
    by_cases hc102 : mjCmp .ge p0 (Z.1 183 1) = true
    · rw [if_pos hc102] at h
      refine pG_cmt (t := 30) rfl rfl hc102 ?_
      refine pG_many 1 (pc1 := 31) (L1 := [some (.ref 183), some (.int p0)]) (st1 := [.int 0]) (M1 := mjTo Z) (fun _ _ => rfl) ?_
      simp only [Option.some.injEq] at h
      subst h
      exact pG_ret (r := some (.int 0)) rfl ⟨rfl, rfl⟩
    · rw [if_neg hc102] at h
      refine pG_cmf (t := 30) rfl rfl hc102 ?_
      refine pG_many 2 (pc1 := 14) (L1 := [some (.ref 183), some (.int p0)]) (st1 := [.ref 183, .int p0]) (M1 := mjTo Z) (fun _ _ => rfl) ?_
      refine pG_getR (ci := 9) (f := 0) (b := Z.2.2.2) rfl rfl rfl (by rfl) (by decide) rfl ?_
      have hk103 : mjIs Z.2.2.2 211 13 = true := by
        by_cases q9 : mjIs Z.2.2.2 211 13 = true
        · exact q9
        · rw [if_neg q9] at h; cases h
      rw [if_pos hk103] at h
      refine pG_lenS (c := 13) rfl (by decide) (by decide) hk103 ?_
      by_cases hc104 : mjCmp .ge p0 (Int32.ofNat (mjLay Z.2.2.2).2) = true
      · rw [if_pos hc104] at h
        refine pG_cmt (t := 30) rfl rfl hc104 ?_
        refine pG_many 1 (pc1 := 31) (L1 := [some (.ref 183), some (.int p0)]) (st1 := [.int 0]) (M1 := mjTo Z) (fun _ _ => rfl) ?_
        simp only [Option.some.injEq] at h
        subst h
        exact pG_ret (r := some (.int 0)) rfl ⟨rfl, rfl⟩
      · rw [if_neg hc104] at h
        refine pG_cmf (t := 30) rfl rfl hc104 ?_
        refine pG_many 1 (pc1 := 22) (L1 := [some (.ref 183), some (.int p0)]) (st1 := [.ref 183]) (M1 := mjTo Z) (fun _ _ => rfl) ?_
        refine pG_getR (ci := 9) (f := 0) (b := Z.2.2.2) rfl rfl rfl (by rfl) (by decide) rfl ?_
        refine pG_many 1 (pc1 := 26) (L1 := [some (.ref 183), some (.int p0)]) (st1 := [.int p0, .ref Z.2.2.2]) (M1 := mjTo Z) (fun _ _ => rfl) ?_
        have hk105 : mjIn p0 (mjLay Z.2.2.2).2 = true := by
          by_cases q9 : mjIn p0 (mjLay Z.2.2.2).2 = true
          · exact q9
          · rw [if_neg q9] at h; cases h
        rw [if_pos hk105] at h
        refine pG_ial rfl hk103 hk105 ?_
        refine pG_many 1 (pc1 := 31) (L1 := [some (.ref 183), some (.int p0)]) (st1 := [.int (Z.1 Z.2.2.2 (mjIx p0))]) (M1 := mjTo Z) (fun _ _ => rfl) ?_
        simp only [Option.some.injEq] at h
        subst h
        exact pG_ret (r := some (.int (Z.1 Z.2.2.2 (mjIx p0)))) rfl ⟨rfl, rfl⟩
def f64_isLetter (p0 : Int32) (Z : mjZt) : Option Int32 :=
  if mjCmp .lt p0 97 = true then
    some 0
  else
    if mjCmp .gt p0 122 = true then
      some 0
    else
      some 1
theorem f64_isLetter_ok {p0 : Int32} {Z : mjZt} {v9 : Int32} (h : f64_isLetter p0 Z = some v9) : pG 64 0 (mjEnt [.int p0] (mjML 64)) [] (mjTo Z) (fun r M1 => r = some (.int v9) ∧ M1 = mjTo Z) := by
  unfold f64_isLetter at h
  show pG 64 0 [some (.int p0)] [] (mjTo Z) _
  refine pG_many 2 (pc1 := 3) (L1 := [some (.int p0)]) (st1 := [.int 97, .int p0]) (M1 := mjTo Z) (fun _ _ => rfl) ?_
  by_cases hc101 : mjCmp .lt p0 97 = true
  · rw [if_pos hc101] at h
    refine pG_cmt (t := 16) rfl rfl hc101 ?_
    refine pG_many 1 (pc1 := 17) (L1 := [some (.int p0)]) (st1 := [.int 0]) (M1 := mjTo Z) (fun _ _ => rfl) ?_
    simp only [Option.some.injEq] at h
    subst h
    exact pG_ret (r := some (.int 0)) rfl ⟨rfl, rfl⟩
  · rw [if_neg hc101] at h
    refine pG_cmf (t := 16) rfl rfl hc101 ?_
    refine pG_many 2 (pc1 := 9) (L1 := [some (.int p0)]) (st1 := [.int 122, .int p0]) (M1 := mjTo Z) (fun _ _ => rfl) ?_
    by_cases hc102 : mjCmp .gt p0 122 = true
    · rw [if_pos hc102] at h
      refine pG_cmt (t := 16) rfl rfl hc102 ?_
      refine pG_many 1 (pc1 := 17) (L1 := [some (.int p0)]) (st1 := [.int 0]) (M1 := mjTo Z) (fun _ _ => rfl) ?_
      simp only [Option.some.injEq] at h
      subst h
      exact pG_ret (r := some (.int 0)) rfl ⟨rfl, rfl⟩
    · rw [if_neg hc102] at h
      refine pG_cmf (t := 16) rfl rfl hc102 ?_
      refine pG_many 2 (pc1 := 17) (L1 := [some (.int p0)]) (st1 := [.int 1]) (M1 := mjTo Z) (fun _ _ => rfl) ?_
      simp only [Option.some.injEq] at h
      subst h
      exact pG_ret (r := some (.int 1)) rfl ⟨rfl, rfl⟩
