def f146_impedersOf_h5 : Nat → Nat → Nat → Int32 → Int32 → Int32 → mjZt → Option Int32
  | 0, _, _, _, _, _, _ => none
  | n + 1, x0, x1, x2, x3, x4, Z =>
    if mjIs x1 251 2 = true then
    if mjCmp .ge x4 (Z.1 x1 6) = true then
      some x3
    else
      mjBp (f6_deed x1 x4 Z) fun v104 =>
      if mjIs v104 251 0 = true then
      if mjCmp .ne (Z.1 v104 0) 3 = true then
        f146_impedersOf_h5 n x0 x1 x2 x3 (x4 + 1) Z
      else
        if mjCmp .ne (Z.1 v104 2) x2 = true then
          f146_impedersOf_h5 n x0 x1 x2 x3 (x4 + 1) Z
        else
          if mjIs x0 251 10 = true then
          mjBp (f142_rulesStriking x0 x4 Z) fun v111 =>
          if mjCmp .eq v111 0 = true then
            f146_impedersOf_h5 n x0 x1 x2 x3 (x4 + 1) Z
          else
            f146_impedersOf_h5 n x0 x1 x2 (x3 ||| ((1 : Int32) <<< (((Z.1 v104 1) : Int32) &&& 31))) (x4 + 1) Z
          else none
      else none
    else none
theorem f146_impedersOf_h5_ok : ∀ (n : Nat) (x0 : Nat) (x1 : Nat) (x2 : Int32) (x3 : Int32) (x4 : Int32) (d5 : Option Value) (Z : mjZt) (v9 : Int32), f146_impedersOf_h5 n x0 x1 x2 x3 x4 Z = some v9 → pG 146 5 [some (.ref x0), some (.ref x1), some (.int x2), some (.int x3), some (.int x4), d5] [] (mjTo Z) (fun r M1 => r = some (.int v9) ∧ M1 = mjTo Z)
  | 0, x0, x1, x2, x3, x4, d5, Z, v9, h => by rw [f146_impedersOf_h5] at h; cases h
  | n + 1, x0, x1, x2, x3, x4, d5, Z, v9, h => by
      rw [f146_impedersOf_h5] at h
      refine pG_many 2 (pc1 := 8) (L1 := [some (.ref x0), some (.ref x1), some (.int x2), some (.int x3), some (.int x4), d5]) (st1 := [.ref x1, .int x4]) (M1 := mjTo Z) rfl ?_
      have hk101 : mjIs x1 251 2 = true := by
        by_cases q9 : mjIs x1 251 2 = true
        · exact q9
        · rw [if_neg q9] at h; cases h
      rw [if_pos hk101] at h
      refine pG_getI (ci := 2) (f := 6) rfl rfl (Or.inl rfl) hk101 ?_
      by_cases hc102 : mjCmp .ge x4 (Z.1 x1 6) = true
      · rw [if_pos hc102] at h
        refine pG_cmt (t := 65) rfl rfl hc102 ?_
        refine pG_many 1 (pc1 := 66) (L1 := [some (.ref x0), some (.ref x1), some (.int x2), some (.int x3), some (.int x4), d5]) (st1 := [.int x3]) (M1 := mjTo Z) rfl ?_
        simp only [Option.some.injEq] at h
        subst h
        exact pG_ret (r := some (.int x3)) rfl ⟨rfl, rfl⟩
      · rw [if_neg hc102] at h
        refine pG_cmf (t := 65) rfl rfl hc102 ?_
        refine pG_many 2 (pc1 := 17) (L1 := [some (.ref x0), some (.ref x1), some (.int x2), some (.int x3), some (.int x4), d5]) (st1 := [.int x4, .ref x1]) (M1 := mjTo Z) rfl ?_
        cases hq103 : f6_deed x1 x4 Z with
        | none => rw [hq103] at h; cases h
        | some v104 =>
          rw [hq103, mjBp_some] at h
          refine pG_callV (k2 := 6) (As := [.ref x1, .int x4]) (rest := []) rfl rfl rfl rfl rfl (mjRcv_is hk101 (by decide)) (by decide) (f6_deed_ok hq103) ?_
          rintro r9 M9 ⟨rfl, rfl⟩
          show pG 146 20 [some (.ref x0), some (.ref x1), some (.int x2), some (.int x3), some (.int x4), d5] [.ref v104] (mjTo Z) _
          refine pG_many 2 (pc1 := 24) (L1 := [some (.ref x0), some (.ref x1), some (.int x2), some (.int x3), some (.int x4), some (.ref v104)]) (st1 := [.ref v104]) (M1 := mjTo Z) rfl ?_
          have hk106 : mjIs v104 251 0 = true := by
            by_cases q9 : mjIs v104 251 0 = true
            · exact q9
            · rw [if_neg q9] at h; cases h
          rw [if_pos hk106] at h
          refine pG_getI (ci := 0) (f := 0) rfl rfl (Or.inl rfl) hk106 ?_
          refine pG_many 1 (pc1 := 28) (L1 := [some (.ref x0), some (.ref x1), some (.int x2), some (.int x3), some (.int x4), some (.ref v104)]) (st1 := [.int 3, .int (Z.1 v104 0)]) (M1 := mjTo Z) rfl ?_
          by_cases hc107 : mjCmp .ne (Z.1 v104 0) 3 = true
          · rw [if_pos hc107] at h
            refine pG_cmt (t := 59) rfl rfl hc107 ?_
            refine pG_many 2 (pc1 := 5) (L1 := [some (.ref x0), some (.ref x1), some (.int x2), some (.int x3), some (.int (x4 + 1)), some (.ref v104)]) (st1 := []) (M1 := mjTo Z) rfl ?_
            exact f146_impedersOf_h5_ok n x0 x1 x2 x3 (x4 + 1) (some (.ref v104)) Z v9 h
          · rw [if_neg hc107] at h
            refine pG_cmf (t := 59) rfl rfl hc107 ?_
            refine pG_many 1 (pc1 := 33) (L1 := [some (.ref x0), some (.ref x1), some (.int x2), some (.int x3), some (.int x4), some (.ref v104)]) (st1 := [.ref v104]) (M1 := mjTo Z) rfl ?_
            refine pG_getI (ci := 0) (f := 2) rfl rfl (Or.inl rfl) hk106 ?_
            refine pG_many 1 (pc1 := 37) (L1 := [some (.ref x0), some (.ref x1), some (.int x2), some (.int x3), some (.int x4), some (.ref v104)]) (st1 := [.int x2, .int (Z.1 v104 2)]) (M1 := mjTo Z) rfl ?_
            by_cases hc108 : mjCmp .ne (Z.1 v104 2) x2 = true
            · rw [if_pos hc108] at h
              refine pG_cmt (t := 59) rfl rfl hc108 ?_
              refine pG_many 2 (pc1 := 5) (L1 := [some (.ref x0), some (.ref x1), some (.int x2), some (.int x3), some (.int (x4 + 1)), some (.ref v104)]) (st1 := []) (M1 := mjTo Z) rfl ?_
              exact f146_impedersOf_h5_ok n x0 x1 x2 x3 (x4 + 1) (some (.ref v104)) Z v9 h
            · rw [if_neg hc108] at h
              refine pG_cmf (t := 59) rfl rfl hc108 ?_
              refine pG_many 2 (pc1 := 43) (L1 := [some (.ref x0), some (.ref x1), some (.int x2), some (.int x3), some (.int x4), some (.ref v104)]) (st1 := [.int x4, .ref x0]) (M1 := mjTo Z) rfl ?_
              have hk109 : mjIs x0 251 10 = true := by
                by_cases q9 : mjIs x0 251 10 = true
                · exact q9
                · rw [if_neg q9] at h; cases h
              rw [if_pos hk109] at h
              cases hq110 : f142_rulesStriking x0 x4 Z with
              | none => rw [hq110] at h; cases h
              | some v111 =>
                rw [hq110, mjBp_some] at h
                refine pG_callV (k2 := 142) (As := [.ref x0, .int x4]) (rest := []) rfl rfl rfl rfl rfl (mjRcv_is hk109 (by decide)) (by decide) (f142_rulesStriking_ok hq110) ?_
                rintro r9 M9 ⟨rfl, rfl⟩
                show pG 146 46 [some (.ref x0), some (.ref x1), some (.int x2), some (.int x3), some (.int x4), some (.ref v104)] [.int v111] (mjTo Z) _
                by_cases hc113 : mjCmp .eq v111 0 = true
                · rw [if_pos hc113] at h
                  refine pG_ift (t := 59) rfl rfl hc113 ?_
                  refine pG_many 2 (pc1 := 5) (L1 := [some (.ref x0), some (.ref x1), some (.int x2), some (.int x3), some (.int (x4 + 1)), some (.ref v104)]) (st1 := []) (M1 := mjTo Z) rfl ?_
                  exact f146_impedersOf_h5_ok n x0 x1 x2 x3 (x4 + 1) (some (.ref v104)) Z v9 h
                · rw [if_neg hc113] at h
                  refine pG_iff (t := 59) rfl rfl hc113 ?_
                  refine pG_many 3 (pc1 := 53) (L1 := [some (.ref x0), some (.ref x1), some (.int x2), some (.int x3), some (.int x4), some (.ref v104)]) (st1 := [.ref v104, .int 1, .int x3]) (M1 := mjTo Z) rfl ?_
                  refine pG_getI (ci := 0) (f := 1) rfl rfl (Or.inl rfl) hk106 ?_
                  refine pG_many 5 (pc1 := 5) (L1 := [some (.ref x0), some (.ref x1), some (.int x2), some (.int (x3 ||| ((1 : Int32) <<< (((Z.1 v104 1) : Int32) &&& 31)))), some (.int (x4 + 1)), some (.ref v104)]) (st1 := []) (M1 := mjTo Z) rfl ?_
                  exact f146_impedersOf_h5_ok n x0 x1 x2 (x3 ||| ((1 : Int32) <<< (((Z.1 v104 1) : Int32) &&& 31))) (x4 + 1) (some (.ref v104)) Z v9 h
def f146_impedersOf (a0 : Nat) (p0 : Nat) (p1 : Int32) (Z : mjZt) : Option Int32 :=
  f146_impedersOf_h5 mjF a0 p0 p1 0 0 Z
theorem f146_impedersOf_ok {a0 : Nat} {p0 : Nat} {p1 : Int32} {Z : mjZt} {v9 : Int32} (h : f146_impedersOf a0 p0 p1 Z = some v9) : pG 146 0 (mjEnt [.ref a0, .ref p0, .int p1] (mjML 146)) [] (mjTo Z) (fun r M1 => r = some (.int v9) ∧ M1 = mjTo Z) := by
  unfold f146_impedersOf at h
  show pG 146 0 [some (.ref a0), some (.ref p0), some (.int p1), none, none, none] [] (mjTo Z) _
  refine pG_many 4 (pc1 := 5) (L1 := [some (.ref a0), some (.ref p0), some (.int p1), some (.int 0), some (.int 0), none]) (st1 := []) (M1 := mjTo Z) rfl ?_
  exact f146_impedersOf_h5_ok mjF a0 p0 p1 0 0 none Z v9 h
def f148_feedNumber_h3 : Nat → Int32 → Int32 → mjZt → Option (Unit × mjZt)
  | 0, _, _, _ => none
  | n + 1, x1, x2, Z =>
    if mjCmp .lt x2 0 = true then
      some ((), Z)
    else
      if mjCmp .lt (Z.1 0 1) 0 = true then
        f148_feedNumber_h3 n x1 (x2 + (-8)) Z
      else
        if mjCmp .ge (Z.1 0 1) 700 = true then
          f148_feedNumber_h3 n x1 (x2 + (-8)) Z
        else
          if mjIn (Z.1 0 1) 700 = true then
          mjLet (zSi Z 1 (mjIx (Z.1 0 1)) (((x1 : Int32) >>> ((x2 : Int32) &&& 31)) &&& 255)) fun Z105 =>
          mjLet (zSi Z105 0 1 ((Z105.1 0 1) + 1)) fun Z106 =>
          f148_feedNumber_h3 n x1 (x2 + (-8)) Z106
          else none
theorem f148_feedNumber_h3_ok : ∀ (n : Nat) (x1 : Int32) (x2 : Int32) (Z : mjZt) (v9 : Unit) (Z9 : mjZt), f148_feedNumber_h3 n x1 x2 Z = some (v9, Z9) → pG 148 3 [some (.ref 0), some (.int x1), some (.int x2)] [] (mjTo Z) (fun r M1 => r = none ∧ M1 = mjTo Z9)
  | 0, x1, x2, Z, v9, Z9, h => by rw [f148_feedNumber_h3] at h; cases h
  | n + 1, x1, x2, Z, v9, Z9, h => by
      rw [f148_feedNumber_h3] at h
      refine pG_many 1 (pc1 := 4) (L1 := [some (.ref 0), some (.int x1), some (.int x2)]) (st1 := [.int x2]) (M1 := mjTo Z) rfl ?_
      by_cases hc101 : mjCmp .lt x2 0 = true
      · rw [if_pos hc101] at h
        refine pG_ift (t := 58) rfl rfl hc101 ?_
        simp only [Option.some.injEq, Prod.mk.injEq] at h
        obtain ⟨-, rfl⟩ := h
        exact pG_ret (r := none) rfl ⟨rfl, rfl⟩
      · rw [if_neg hc101] at h
        refine pG_iff (t := 58) rfl rfl hc101 ?_
        refine pG_many 1 (pc1 := 8) (L1 := [some (.ref 0), some (.int x1), some (.int x2)]) (st1 := [.ref 0]) (M1 := mjTo Z) rfl ?_
        refine pG_getI (ci := 11) (f := 1) rfl rfl (Or.inl rfl) (by rfl) ?_
        by_cases hc102 : mjCmp .lt (Z.1 0 1) 0 = true
        · rw [if_pos hc102] at h
          refine pG_ift (t := 52) rfl rfl hc102 ?_
          refine pG_many 2 (pc1 := 3) (L1 := [some (.ref 0), some (.int x1), some (.int (x2 + (-8)))]) (st1 := []) (M1 := mjTo Z) rfl ?_
          exact f148_feedNumber_h3_ok n x1 (x2 + (-8)) Z v9 Z9 h
        · rw [if_neg hc102] at h
          refine pG_iff (t := 52) rfl rfl hc102 ?_
          refine pG_many 1 (pc1 := 15) (L1 := [some (.ref 0), some (.int x1), some (.int x2)]) (st1 := [.ref 0]) (M1 := mjTo Z) rfl ?_
          refine pG_getI (ci := 11) (f := 1) rfl rfl (Or.inl rfl) (by rfl) ?_
          refine pG_many 1 (pc1 := 19) (L1 := [some (.ref 0), some (.int x1), some (.int x2)]) (st1 := [.ref 0, .int (Z.1 0 1)]) (M1 := mjTo Z) rfl ?_
          refine pG_getR (ci := 11) (f := 0) (b := 1) rfl rfl rfl (by rfl) rfl ?_
          refine pG_len rfl (by decide) (by decide) (by decide) ?_
          by_cases hc103 : mjCmp .ge (Z.1 0 1) 700 = true
          · rw [if_pos hc103] at h
            refine pG_cmt (t := 52) rfl rfl hc103 ?_
            refine pG_many 2 (pc1 := 3) (L1 := [some (.ref 0), some (.int x1), some (.int (x2 + (-8)))]) (st1 := []) (M1 := mjTo Z) rfl ?_
            exact f148_feedNumber_h3_ok n x1 (x2 + (-8)) Z v9 Z9 h
          · rw [if_neg hc103] at h
            refine pG_cmf (t := 52) rfl rfl hc103 ?_
            refine pG_many 1 (pc1 := 27) (L1 := [some (.ref 0), some (.int x1), some (.int x2)]) (st1 := [.ref 0]) (M1 := mjTo Z) rfl ?_
            refine pG_getR (ci := 11) (f := 0) (b := 1) rfl rfl rfl (by rfl) rfl ?_
            refine pG_many 1 (pc1 := 31) (L1 := [some (.ref 0), some (.int x1), some (.int x2)]) (st1 := [.ref 0, .ref 1]) (M1 := mjTo Z) rfl ?_
            refine pG_getI (ci := 11) (f := 1) rfl rfl (Or.inl rfl) (by rfl) ?_
            refine pG_many 5 (pc1 := 41) (L1 := [some (.ref 0), some (.int x1), some (.int x2)]) (st1 := [.int (((x1 : Int32) >>> ((x2 : Int32) &&& 31)) &&& 255), .int (Z.1 0 1), .ref 1]) (M1 := mjTo Z) rfl ?_
            have hk104 : mjIn (Z.1 0 1) 700 = true := by
              by_cases q9 : mjIn (Z.1 0 1) 700 = true
              · exact q9
              · rw [if_neg q9] at h; cases h
            rw [if_pos hk104] at h
            refine pG_ias rfl (by rfl) hk104 (?_ : pG 148 42 [some (.ref 0), some (.int x1), some (.int x2)] [] (mjTo (zSi Z 1 (mjIx (Z.1 0 1)) (((x1 : Int32) >>> ((x2 : Int32) &&& 31)) &&& 255))) _)
            rw [mjLet] at h
            generalize zSi Z 1 (mjIx (Z.1 0 1)) (((x1 : Int32) >>> ((x2 : Int32) &&& 31)) &&& 255) = Z105 at h ⊢
            refine pG_many 2 (pc1 := 44) (L1 := [some (.ref 0), some (.int x1), some (.int x2)]) (st1 := [.ref 0, .ref 0]) (M1 := mjTo Z105) rfl ?_
            refine pG_getI (ci := 11) (f := 1) rfl rfl (Or.inl rfl) (by rfl) ?_
            refine pG_many 2 (pc1 := 49) (L1 := [some (.ref 0), some (.int x1), some (.int x2)]) (st1 := [.int ((Z105.1 0 1) + 1), .ref 0]) (M1 := mjTo Z105) rfl ?_
            refine pG_putI (ci := 11) (f := 1) rfl rfl rfl rfl (by rfl) ?_
            rw [mjLet] at h
            generalize zSi Z105 0 1 ((Z105.1 0 1) + 1) = Z106 at h ⊢
            refine pG_many 2 (pc1 := 3) (L1 := [some (.ref 0), some (.int x1), some (.int (x2 + (-8)))]) (st1 := []) (M1 := mjTo Z106) rfl ?_
            exact f148_feedNumber_h3_ok n x1 (x2 + (-8)) Z106 v9 Z9 h
def f148_feedNumber (p0 : Int32) (Z : mjZt) : Option (Unit × mjZt) :=
  f148_feedNumber_h3 mjF p0 24 Z
theorem f148_feedNumber_ok {p0 : Int32} {Z : mjZt} {v9 : Unit} {Z9 : mjZt} (h : f148_feedNumber p0 Z = some (v9, Z9)) : pG 148 0 (mjEnt [.ref 0, .int p0] (mjML 148)) [] (mjTo Z) (fun r M1 => r = none ∧ M1 = mjTo Z9) := by
  unfold f148_feedNumber at h
  show pG 148 0 [some (.ref 0), some (.int p0), none] [] (mjTo Z) _
  refine pG_many 2 (pc1 := 3) (L1 := [some (.ref 0), some (.int p0), some (.int 24)]) (st1 := []) (M1 := mjTo Z) rfl ?_
  exact f148_feedNumber_h3_ok mjF p0 24 Z v9 Z9 h
def f149_feed (p0 : Int32) (p1 : Int32) (p2 : Int32) (p3 : Int32) (p4 : Int32) (Z : mjZt) : Option (Int32 × mjZt) :=
  if mjCmp .le ((Z.1 0 1) + 20) 700 = true then
    mjBd (f148_feedNumber p0 Z) fun _ Z104 =>
    mjBd (f148_feedNumber p1 Z104) fun _ Z107 =>
    mjBd (f148_feedNumber p2 Z107) fun _ Z110 =>
    mjBd (f148_feedNumber p3 Z110) fun _ Z113 =>
    mjBd (f148_feedNumber p4 Z113) fun _ Z116 =>
    some (Z116.1 0 1, Z116)
  else
    some ((-1), Z)
theorem f149_feed_ok {p0 : Int32} {p1 : Int32} {p2 : Int32} {p3 : Int32} {p4 : Int32} {Z : mjZt} {v9 : Int32} {Z9 : mjZt} (h : f149_feed p0 p1 p2 p3 p4 Z = some (v9, Z9)) : pG 149 0 (mjEnt [.ref 0, .int p0, .int p1, .int p2, .int p3, .int p4] (mjML 149)) [] (mjTo Z) (fun r M1 => r = some (.int v9) ∧ M1 = mjTo Z9) := by
  unfold f149_feed at h
  show pG 149 0 [some (.ref 0), some (.int p0), some (.int p1), some (.int p2), some (.int p3), some (.int p4)] [] (mjTo Z) _
  refine pG_many 1 (pc1 := 1) (L1 := [some (.ref 0), some (.int p0), some (.int p1), some (.int p2), some (.int p3), some (.int p4)]) (st1 := [.ref 0]) (M1 := mjTo Z) rfl ?_
  refine pG_getI (ci := 11) (f := 1) rfl rfl (Or.inl rfl) (by rfl) ?_
  refine pG_many 3 (pc1 := 10) (L1 := [some (.ref 0), some (.int p0), some (.int p1), some (.int p2), some (.int p3), some (.int p4)]) (st1 := [.int 700, .int ((Z.1 0 1) + 20)]) (M1 := mjTo Z) rfl ?_
  by_cases hc101 : mjCmp .le ((Z.1 0 1) + 20) 700 = true
  · rw [if_pos hc101] at h
    refine pG_cmt (t := 15) rfl rfl hc101 ?_
    refine pG_many 2 (pc1 := 17) (L1 := [some (.ref 0), some (.int p0), some (.int p1), some (.int p2), some (.int p3), some (.int p4)]) (st1 := [.int p0, .ref 0]) (M1 := mjTo Z) rfl ?_
    cases hq102 : f148_feedNumber p0 Z with
    | none => rw [hq102] at h; cases h
    | some w =>
      obtain ⟨v103, Z104⟩ := w
      rw [hq102, mjBd_some] at h
      refine pG_callV (k2 := 148) (As := [.ref 0, .int p0]) (rest := []) rfl rfl rfl rfl rfl (by rfl) (by decide) (f148_feedNumber_ok hq102) ?_
      rintro r9 M9 ⟨rfl, rfl⟩
      show pG 149 20 [some (.ref 0), some (.int p0), some (.int p1), some (.int p2), some (.int p3), some (.int p4)] [] (mjTo Z104) _
      refine pG_many 2 (pc1 := 22) (L1 := [some (.ref 0), some (.int p0), some (.int p1), some (.int p2), some (.int p3), some (.int p4)]) (st1 := [.int p1, .ref 0]) (M1 := mjTo Z104) rfl ?_
      cases hq105 : f148_feedNumber p1 Z104 with
      | none => rw [hq105] at h; cases h
      | some w =>
        obtain ⟨v106, Z107⟩ := w
        rw [hq105, mjBd_some] at h
        refine pG_callV (k2 := 148) (As := [.ref 0, .int p1]) (rest := []) rfl rfl rfl rfl rfl (by rfl) (by decide) (f148_feedNumber_ok hq105) ?_
        rintro r9 M9 ⟨rfl, rfl⟩
        show pG 149 25 [some (.ref 0), some (.int p0), some (.int p1), some (.int p2), some (.int p3), some (.int p4)] [] (mjTo Z107) _
        refine pG_many 2 (pc1 := 27) (L1 := [some (.ref 0), some (.int p0), some (.int p1), some (.int p2), some (.int p3), some (.int p4)]) (st1 := [.int p2, .ref 0]) (M1 := mjTo Z107) rfl ?_
        cases hq108 : f148_feedNumber p2 Z107 with
        | none => rw [hq108] at h; cases h
        | some w =>
          obtain ⟨v109, Z110⟩ := w
          rw [hq108, mjBd_some] at h
          refine pG_callV (k2 := 148) (As := [.ref 0, .int p2]) (rest := []) rfl rfl rfl rfl rfl (by rfl) (by decide) (f148_feedNumber_ok hq108) ?_
          rintro r9 M9 ⟨rfl, rfl⟩
          show pG 149 30 [some (.ref 0), some (.int p0), some (.int p1), some (.int p2), some (.int p3), some (.int p4)] [] (mjTo Z110) _
          refine pG_many 2 (pc1 := 33) (L1 := [some (.ref 0), some (.int p0), some (.int p1), some (.int p2), some (.int p3), some (.int p4)]) (st1 := [.int p3, .ref 0]) (M1 := mjTo Z110) rfl ?_
          cases hq111 : f148_feedNumber p3 Z110 with
          | none => rw [hq111] at h; cases h
          | some w =>
            obtain ⟨v112, Z113⟩ := w
            rw [hq111, mjBd_some] at h
            refine pG_callV (k2 := 148) (As := [.ref 0, .int p3]) (rest := []) rfl rfl rfl rfl rfl (by rfl) (by decide) (f148_feedNumber_ok hq111) ?_
            rintro r9 M9 ⟨rfl, rfl⟩
            show pG 149 36 [some (.ref 0), some (.int p0), some (.int p1), some (.int p2), some (.int p3), some (.int p4)] [] (mjTo Z113) _
            refine pG_many 2 (pc1 := 39) (L1 := [some (.ref 0), some (.int p0), some (.int p1), some (.int p2), some (.int p3), some (.int p4)]) (st1 := [.int p4, .ref 0]) (M1 := mjTo Z113) rfl ?_
            cases hq114 : f148_feedNumber p4 Z113 with
            | none => rw [hq114] at h; cases h
            | some w =>
              obtain ⟨v115, Z116⟩ := w
              rw [hq114, mjBd_some] at h
              refine pG_callV (k2 := 148) (As := [.ref 0, .int p4]) (rest := []) rfl rfl rfl rfl rfl (by rfl) (by decide) (f148_feedNumber_ok hq114) ?_
              rintro r9 M9 ⟨rfl, rfl⟩
              show pG 149 42 [some (.ref 0), some (.int p0), some (.int p1), some (.int p2), some (.int p3), some (.int p4)] [] (mjTo Z116) _
              refine pG_many 1 (pc1 := 43) (L1 := [some (.ref 0), some (.int p0), some (.int p1), some (.int p2), some (.int p3), some (.int p4)]) (st1 := [.ref 0]) (M1 := mjTo Z116) rfl ?_
              refine pG_getI (ci := 11) (f := 1) rfl rfl (Or.inl rfl) (by rfl) ?_
              simp only [Option.some.injEq, Prod.mk.injEq] at h
              obtain ⟨rfl, rfl⟩ := h
              exact pG_ret (r := some (.int (Z116.1 0 1))) rfl ⟨rfl, rfl⟩
  · rw [if_neg hc101] at h
    refine pG_cmf (t := 15) rfl rfl hc101 ?_
    refine pG_many 1 (pc1 := 14) (L1 := [some (.ref 0), some (.int p0), some (.int p1), some (.int p2), some (.int p3), some (.int p4)]) (st1 := [.int ((-1))]) (M1 := mjTo Z) rfl ?_
    simp only [Option.some.injEq, Prod.mk.injEq] at h
    obtain ⟨rfl, rfl⟩ := h
    exact pG_ret (r := some (.int ((-1)))) rfl ⟨rfl, rfl⟩
def f150_end (p0 : Int32) (Z : mjZt) : Option (Int32 × mjZt) :=
  if mjCmp .lt p0 0 = true then
    some ((-1), Z)
  else
    if mjCmp .le p0 (Z.1 0 1) = true then
      mjLet (zSi Z 0 1 p0) fun Z103 =>
      some (p0, Z103)
    else
      some ((-1), Z)
theorem f150_end_ok {p0 : Int32} {Z : mjZt} {v9 : Int32} {Z9 : mjZt} (h : f150_end p0 Z = some (v9, Z9)) : pG 150 0 (mjEnt [.ref 0, .int p0] (mjML 150)) [] (mjTo Z) (fun r M1 => r = some (.int v9) ∧ M1 = mjTo Z9) := by
  unfold f150_end at h
  show pG 150 0 [some (.ref 0), some (.int p0)] [] (mjTo Z) _
  refine pG_many 1 (pc1 := 1) (L1 := [some (.ref 0), some (.int p0)]) (st1 := [.int p0]) (M1 := mjTo Z) rfl ?_
  by_cases hc101 : mjCmp .lt p0 0 = true
  · rw [if_pos hc101] at h
    refine pG_ift (t := 12) rfl rfl hc101 ?_
    refine pG_many 1 (pc1 := 13) (L1 := [some (.ref 0), some (.int p0)]) (st1 := [.int ((-1))]) (M1 := mjTo Z) rfl ?_
    simp only [Option.some.injEq, Prod.mk.injEq] at h
    obtain ⟨rfl, rfl⟩ := h
    exact pG_ret (r := some (.int ((-1)))) rfl ⟨rfl, rfl⟩
  · rw [if_neg hc101] at h
    refine pG_iff (t := 12) rfl rfl hc101 ?_
    refine pG_many 2 (pc1 := 6) (L1 := [some (.ref 0), some (.int p0)]) (st1 := [.ref 0, .int p0]) (M1 := mjTo Z) rfl ?_
    refine pG_getI (ci := 11) (f := 1) rfl rfl (Or.inl rfl) (by rfl) ?_
    by_cases hc102 : mjCmp .le p0 (Z.1 0 1) = true
    · rw [if_pos hc102] at h
      refine pG_cmt (t := 14) rfl rfl hc102 ?_
      refine pG_many 2 (pc1 := 16) (L1 := [some (.ref 0), some (.int p0)]) (st1 := [.int p0, .ref 0]) (M1 := mjTo Z) rfl ?_
      refine pG_putI (ci := 11) (f := 1) rfl rfl rfl rfl (by rfl) ?_
      rw [mjLet] at h
      generalize zSi Z 0 1 p0 = Z103 at h ⊢
      refine pG_many 1 (pc1 := 20) (L1 := [some (.ref 0), some (.int p0)]) (st1 := [.int p0]) (M1 := mjTo Z103) rfl ?_
      simp only [Option.some.injEq, Prod.mk.injEq] at h
      obtain ⟨rfl, rfl⟩ := h
      exact pG_ret (r := some (.int p0)) rfl ⟨rfl, rfl⟩
    · rw [if_neg hc102] at h
      refine pG_cmf (t := 14) rfl rfl hc102 ?_
      refine pG_many 1 (pc1 := 13) (L1 := [some (.ref 0), some (.int p0)]) (st1 := [.int ((-1))]) (M1 := mjTo Z) rfl ?_
      simp only [Option.some.injEq, Prod.mk.injEq] at h
      obtain ⟨rfl, rfl⟩ := h
      exact pG_ret (r := some (.int ((-1)))) rfl ⟨rfl, rfl⟩
def f151_settleAll  (Z : mjZt) : Option (Unit × mjZt) :=
  if mjIs Z.2.2.1 251 2 = true then
  mjBd (f35_settle Z.2.2.1 Z) fun _ Z104 =>
  if mjIs Z104.2.2.1 251 2 = true then
  mjBd (f136_decide 199 Z104.2.2.1 (Z104.2.1 Z104.2.2.1 11) Z104) fun _ Z108 =>
  some ((), Z108)
  else none
  else none
theorem f151_settleAll_ok  {Z : mjZt} {v9 : Unit} {Z9 : mjZt} (h : f151_settleAll  Z = some (v9, Z9)) : pG 151 0 (mjEnt [.ref 0] (mjML 151)) [] (mjTo Z) (fun r M1 => r = none ∧ M1 = mjTo Z9) := by
  unfold f151_settleAll at h
  show pG 151 0 [some (.ref 0)] [] (mjTo Z) _
  refine pG_many 1 (pc1 := 1) (L1 := [some (.ref 0)]) (st1 := [.ref 0]) (M1 := mjTo Z) rfl ?_
  refine pG_getR (ci := 11) (f := 2) (b := Z.2.2.1) rfl rfl rfl (by rfl) rfl ?_
  have hk101 : mjIs Z.2.2.1 251 2 = true := by
    by_cases q9 : mjIs Z.2.2.1 251 2 = true
    · exact q9
    · rw [if_neg q9] at h; cases h
  rw [if_pos hk101] at h
  cases hq102 : f35_settle Z.2.2.1 Z with
  | none => rw [hq102] at h; cases h
  | some w =>
    obtain ⟨v103, Z104⟩ := w
    rw [hq102, mjBd_some] at h
    refine pG_callV (k2 := 35) (As := [.ref Z.2.2.1]) (rest := []) rfl rfl rfl rfl rfl (mjRcv_is hk101 (by decide)) (by decide) (f35_settle_ok hq102) ?_
    rintro r9 M9 ⟨rfl, rfl⟩
    show pG 151 7 [some (.ref 0)] [] (mjTo Z104) _
    refine pG_many 1 (pc1 := 8) (L1 := [some (.ref 0)]) (st1 := [.ref 0]) (M1 := mjTo Z104) rfl ?_
    refine pG_getR (ci := 11) (f := 7) (b := 199) rfl rfl rfl (by rfl) rfl ?_
    refine pG_many 1 (pc1 := 12) (L1 := [some (.ref 0)]) (st1 := [.ref 0, .ref 199]) (M1 := mjTo Z104) rfl ?_
    refine pG_getR (ci := 11) (f := 2) (b := Z104.2.2.1) rfl rfl rfl (by rfl) rfl ?_
    refine pG_many 1 (pc1 := 16) (L1 := [some (.ref 0)]) (st1 := [.ref 0, .ref Z104.2.2.1, .ref 199]) (M1 := mjTo Z104) rfl ?_
    refine pG_getR (ci := 11) (f := 6) (b := 190) rfl rfl rfl (by rfl) rfl ?_
    refine pG_many 1 (pc1 := 20) (L1 := [some (.ref 0)]) (st1 := [.ref 0, .ref 190, .ref Z104.2.2.1, .ref 199]) (M1 := mjTo Z104) rfl ?_
    refine pG_getR (ci := 11) (f := 2) (b := Z104.2.2.1) rfl rfl rfl (by rfl) rfl ?_
    have hk105 : mjIs Z104.2.2.1 251 2 = true := by
      by_cases q9 : mjIs Z104.2.2.1 251 2 = true
      · exact q9
      · rw [if_neg q9] at h; cases h
    rw [if_pos hk105] at h
    refine pG_getL (ci := 2) (f := 11) rfl rfl rfl hk105 ?_
    cases hq106 : f136_decide 199 Z104.2.2.1 (Z104.2.1 Z104.2.2.1 11) Z104 with
    | none => rw [hq106] at h; cases h
    | some w =>
      obtain ⟨v107, Z108⟩ := w
      rw [hq106, mjBd_some] at h
      refine pG_callV (k2 := 136) (As := [.ref 199, .ref Z104.2.2.1, .ref 190, .long (Z104.2.1 Z104.2.2.1 11)]) (rest := []) rfl rfl rfl rfl rfl (by rfl) (by decide) (f136_decide_ok hq106) ?_
      rintro r9 M9 ⟨rfl, rfl⟩
      show pG 151 29 [some (.ref 0)] [] (mjTo Z108) _
      simp only [Option.some.injEq, Prod.mk.injEq] at h
      obtain ⟨-, rfl⟩ := h
      exact pG_ret (r := none) rfl ⟨rfl, rfl⟩
def f153_fault (p0 : Int32) (Z : mjZt) : Option Int32 :=
  if p0 = 0 then
    some (Z.1 182 5)
  else if p0 = 1 then
    some (Z.1 182 6)
  else
    some ((-1))
theorem f153_fault_ok {p0 : Int32} {Z : mjZt} {v9 : Int32} (h : f153_fault p0 Z = some v9) : pG 153 0 (mjEnt [.ref 0, .int p0] (mjML 153)) [] (mjTo Z) (fun r M1 => r = some (.int v9) ∧ M1 = mjTo Z) := by
  unfold f153_fault at h
  show pG 153 0 [some (.ref 0), some (.int p0)] [] (mjTo Z) _
  refine pG_many 1 (pc1 := 1) (L1 := [some (.ref 0), some (.int p0)]) (st1 := [.int p0]) (M1 := mjTo Z) rfl ?_
  by_cases hs101 : p0 = 0
  · rw [if_pos hs101] at h
    refine pG_lsi (t := 28) (o := 27) rfl rfl (by show Op.lookupswitch.offset [(0, 27), (1, 35)] 43 (p0).toInt = 27; rw [hs101]; rfl) rfl ?_
    refine pG_many 1 (pc1 := 29) (L1 := [some (.ref 0), some (.int p0)]) (st1 := [.ref 0]) (M1 := mjTo Z) rfl ?_
    refine pG_getR (ci := 11) (f := 4) (b := 182) rfl rfl rfl (by rfl) rfl ?_
    refine pG_getI (ci := 6) (f := 5) rfl rfl (Or.inl rfl) (by rfl) ?_
    simp only [Option.some.injEq] at h
    subst h
    exact pG_ret (r := some (.int (Z.1 182 5))) rfl ⟨rfl, rfl⟩
  rw [if_neg hs101] at h
  by_cases hs102 : p0 = 1
  · rw [if_pos hs102] at h
    refine pG_lsi (t := 36) (o := 35) rfl rfl (by show Op.lookupswitch.offset [(0, 27), (1, 35)] 43 (p0).toInt = 35; rw [lv_osw (a := 0) hs101 rfl]; rw [hs102]; rfl) rfl ?_
    refine pG_many 1 (pc1 := 37) (L1 := [some (.ref 0), some (.int p0)]) (st1 := [.ref 0]) (M1 := mjTo Z) rfl ?_
    refine pG_getR (ci := 11) (f := 4) (b := 182) rfl rfl rfl (by rfl) rfl ?_
    refine pG_getI (ci := 6) (f := 6) rfl rfl (Or.inl rfl) (by rfl) ?_
    simp only [Option.some.injEq] at h
    subst h
    exact pG_ret (r := some (.int (Z.1 182 6))) rfl ⟨rfl, rfl⟩
  rw [if_neg hs102] at h
  refine pG_lsi (t := 44) (o := 43) rfl rfl (by show Op.lookupswitch.offset [(0, 27), (1, 35)] 43 (p0).toInt = 43; rw [lv_osw (a := 0) hs101 rfl]; rw [lv_osw (a := 1) hs102 rfl]; rfl) rfl ?_
  refine pG_many 1 (pc1 := 45) (L1 := [some (.ref 0), some (.int p0)]) (st1 := [.int ((-1))]) (M1 := mjTo Z) rfl ?_
  simp only [Option.some.injEq] at h
  subst h
  exact pG_ret (r := some (.int ((-1)))) rfl ⟨rfl, rfl⟩
def f154_about (p0 : Int32) (Z : mjZt) : Option Int32 :=
  if (p0).toInt < 0 ∨ 12 < (p0).toInt then
    some ((-1))
  else if ((p0).toInt - 0).toNat = 0 then
    if mjIs Z.2.2.1 251 2 = true then
    some (Z.1 Z.2.2.1 0)
    else none
  else if ((p0).toInt - 0).toNat = 1 then
    if mjIs Z.2.2.1 251 2 = true then
    some (Z.1 Z.2.2.1 1)
    else none
  else if ((p0).toInt - 0).toNat = 2 then
    if mjIs Z.2.2.1 251 2 = true then
    some (Z.1 Z.2.2.1 2)
    else none
  else if ((p0).toInt - 0).toNat = 3 then
    if mjIs Z.2.2.1 251 2 = true then
    some (Z.1 Z.2.2.1 3)
    else none
  else if ((p0).toInt - 0).toNat = 4 then
    if mjIs Z.2.2.1 251 2 = true then
    some (Z.1 Z.2.2.1 4)
    else none
  else if ((p0).toInt - 0).toNat = 5 then
    if mjIs Z.2.2.1 251 2 = true then
    some (Z.1 Z.2.2.1 5)
    else none
  else if ((p0).toInt - 0).toNat = 6 then
    if mjIs Z.2.2.1 251 2 = true then
    some (Z.1 Z.2.2.1 7)
    else none
  else if ((p0).toInt - 0).toNat = 7 then
    if mjIs Z.2.2.1 251 2 = true then
    some (Z.1 Z.2.2.1 6)
    else none
  else if ((p0).toInt - 0).toNat = 8 then
    if mjIs Z.2.2.1 251 2 = true then
    some (Z.1 Z.2.2.1 8)
    else none
  else if ((p0).toInt - 0).toNat = 9 then
    if mjIs Z.2.2.1 251 2 = true then
    some (Z.1 Z.2.2.1 9)
    else none
  else if ((p0).toInt - 0).toNat = 10 then
    if mjIs Z.2.2.1 251 2 = true then
    some (Z.1 Z.2.2.1 10)
    else none
  else if ((p0).toInt - 0).toNat = 11 then
    some (Z.1 209 2)
  else if ((p0).toInt - 0).toNat = 12 then
    some (Z.1 0 1)
  else none
theorem f154_about_ok {p0 : Int32} {Z : mjZt} {v9 : Int32} (h : f154_about p0 Z = some v9) : pG 154 0 (mjEnt [.ref 0, .int p0] (mjML 154)) [] (mjTo Z) (fun r M1 => r = some (.int v9) ∧ M1 = mjTo Z) := by
  unfold f154_about at h
  show pG 154 0 [some (.ref 0), some (.int p0)] [] (mjTo Z) _
  refine pG_many 1 (pc1 := 1) (L1 := [some (.ref 0), some (.int p0)]) (st1 := [.int p0]) (M1 := mjTo Z) rfl ?_
  by_cases hs101 : (p0).toInt < 0 ∨ 12 < (p0).toInt
  · rw [if_pos hs101] at h
    refine pG_tso (t := 169) rfl hs101 rfl ?_
    refine pG_many 1 (pc1 := 170) (L1 := [some (.ref 0), some (.int p0)]) (st1 := [.int ((-1))]) (M1 := mjTo Z) rfl ?_
    simp only [Option.some.injEq] at h
    subst h
    exact pG_ret (r := some (.int ((-1)))) rfl ⟨rfl, rfl⟩
  rw [if_neg hs101] at h
  by_cases hs102 : ((p0).toInt - 0).toNat = 0
  · rw [if_pos hs102] at h
    refine pG_tsi (t := 68) (j := 0) (o := 67) rfl hs101 hs102 rfl rfl ?_
    refine pG_many 1 (pc1 := 69) (L1 := [some (.ref 0), some (.int p0)]) (st1 := [.ref 0]) (M1 := mjTo Z) rfl ?_
    refine pG_getR (ci := 11) (f := 2) (b := Z.2.2.1) rfl rfl rfl (by rfl) rfl ?_
    have hk103 : mjIs Z.2.2.1 251 2 = true := by
      by_cases q9 : mjIs Z.2.2.1 251 2 = true
      · exact q9
      · rw [if_neg q9] at h; cases h
    rw [if_pos hk103] at h
    refine pG_getI (ci := 2) (f := 0) rfl rfl (Or.inl rfl) hk103 ?_
    simp only [Option.some.injEq] at h
    subst h
    exact pG_ret (r := some (.int (Z.1 Z.2.2.1 0))) rfl ⟨rfl, rfl⟩
  rw [if_neg hs102] at h
  by_cases hs104 : ((p0).toInt - 0).toNat = 1
  · rw [if_pos hs104] at h
    refine pG_tsi (t := 76) (j := 1) (o := 75) rfl hs101 hs104 rfl rfl ?_
    refine pG_many 1 (pc1 := 77) (L1 := [some (.ref 0), some (.int p0)]) (st1 := [.ref 0]) (M1 := mjTo Z) rfl ?_
    refine pG_getR (ci := 11) (f := 2) (b := Z.2.2.1) rfl rfl rfl (by rfl) rfl ?_
    have hk105 : mjIs Z.2.2.1 251 2 = true := by
      by_cases q9 : mjIs Z.2.2.1 251 2 = true
      · exact q9
      · rw [if_neg q9] at h; cases h
    rw [if_pos hk105] at h
    refine pG_getI (ci := 2) (f := 1) rfl rfl (Or.inl rfl) hk105 ?_
    simp only [Option.some.injEq] at h
    subst h
    exact pG_ret (r := some (.int (Z.1 Z.2.2.1 1))) rfl ⟨rfl, rfl⟩
  rw [if_neg hs104] at h
  by_cases hs106 : ((p0).toInt - 0).toNat = 2
  · rw [if_pos hs106] at h
    refine pG_tsi (t := 84) (j := 2) (o := 83) rfl hs101 hs106 rfl rfl ?_
    refine pG_many 1 (pc1 := 85) (L1 := [some (.ref 0), some (.int p0)]) (st1 := [.ref 0]) (M1 := mjTo Z) rfl ?_
    refine pG_getR (ci := 11) (f := 2) (b := Z.2.2.1) rfl rfl rfl (by rfl) rfl ?_
    have hk107 : mjIs Z.2.2.1 251 2 = true := by
      by_cases q9 : mjIs Z.2.2.1 251 2 = true
      · exact q9
      · rw [if_neg q9] at h; cases h
    rw [if_pos hk107] at h
    refine pG_getI (ci := 2) (f := 2) rfl rfl (Or.inl rfl) hk107 ?_
    simp only [Option.some.injEq] at h
    subst h
    exact pG_ret (r := some (.int (Z.1 Z.2.2.1 2))) rfl ⟨rfl, rfl⟩
  rw [if_neg hs106] at h
  by_cases hs108 : ((p0).toInt - 0).toNat = 3
  · rw [if_pos hs108] at h
    refine pG_tsi (t := 92) (j := 3) (o := 91) rfl hs101 hs108 rfl rfl ?_
    refine pG_many 1 (pc1 := 93) (L1 := [some (.ref 0), some (.int p0)]) (st1 := [.ref 0]) (M1 := mjTo Z) rfl ?_
    refine pG_getR (ci := 11) (f := 2) (b := Z.2.2.1) rfl rfl rfl (by rfl) rfl ?_
    have hk109 : mjIs Z.2.2.1 251 2 = true := by
      by_cases q9 : mjIs Z.2.2.1 251 2 = true
      · exact q9
      · rw [if_neg q9] at h; cases h
    rw [if_pos hk109] at h
    refine pG_getI (ci := 2) (f := 3) rfl rfl (Or.inl rfl) hk109 ?_
    simp only [Option.some.injEq] at h
    subst h
    exact pG_ret (r := some (.int (Z.1 Z.2.2.1 3))) rfl ⟨rfl, rfl⟩
  rw [if_neg hs108] at h
  by_cases hs110 : ((p0).toInt - 0).toNat = 4
  · rw [if_pos hs110] at h
    refine pG_tsi (t := 100) (j := 4) (o := 99) rfl hs101 hs110 rfl rfl ?_
    refine pG_many 1 (pc1 := 101) (L1 := [some (.ref 0), some (.int p0)]) (st1 := [.ref 0]) (M1 := mjTo Z) rfl ?_
    refine pG_getR (ci := 11) (f := 2) (b := Z.2.2.1) rfl rfl rfl (by rfl) rfl ?_
    have hk111 : mjIs Z.2.2.1 251 2 = true := by
      by_cases q9 : mjIs Z.2.2.1 251 2 = true
      · exact q9
      · rw [if_neg q9] at h; cases h
    rw [if_pos hk111] at h
    refine pG_getI (ci := 2) (f := 4) rfl rfl (Or.inl rfl) hk111 ?_
    simp only [Option.some.injEq] at h
    subst h
    exact pG_ret (r := some (.int (Z.1 Z.2.2.1 4))) rfl ⟨rfl, rfl⟩
  rw [if_neg hs110] at h
  by_cases hs112 : ((p0).toInt - 0).toNat = 5
  · rw [if_pos hs112] at h
    refine pG_tsi (t := 108) (j := 5) (o := 107) rfl hs101 hs112 rfl rfl ?_
    refine pG_many 1 (pc1 := 109) (L1 := [some (.ref 0), some (.int p0)]) (st1 := [.ref 0]) (M1 := mjTo Z) rfl ?_
    refine pG_getR (ci := 11) (f := 2) (b := Z.2.2.1) rfl rfl rfl (by rfl) rfl ?_
    have hk113 : mjIs Z.2.2.1 251 2 = true := by
      by_cases q9 : mjIs Z.2.2.1 251 2 = true
      · exact q9
      · rw [if_neg q9] at h; cases h
    rw [if_pos hk113] at h
    refine pG_getI (ci := 2) (f := 5) rfl rfl (Or.inl rfl) hk113 ?_
    simp only [Option.some.injEq] at h
    subst h
    exact pG_ret (r := some (.int (Z.1 Z.2.2.1 5))) rfl ⟨rfl, rfl⟩
  rw [if_neg hs112] at h
  by_cases hs114 : ((p0).toInt - 0).toNat = 6
  · rw [if_pos hs114] at h
    refine pG_tsi (t := 116) (j := 6) (o := 115) rfl hs101 hs114 rfl rfl ?_
    refine pG_many 1 (pc1 := 117) (L1 := [some (.ref 0), some (.int p0)]) (st1 := [.ref 0]) (M1 := mjTo Z) rfl ?_
    refine pG_getR (ci := 11) (f := 2) (b := Z.2.2.1) rfl rfl rfl (by rfl) rfl ?_
    have hk115 : mjIs Z.2.2.1 251 2 = true := by
      by_cases q9 : mjIs Z.2.2.1 251 2 = true
      · exact q9
      · rw [if_neg q9] at h; cases h
    rw [if_pos hk115] at h
    refine pG_getI (ci := 2) (f := 7) rfl rfl (Or.inl rfl) hk115 ?_
    simp only [Option.some.injEq] at h
    subst h
    exact pG_ret (r := some (.int (Z.1 Z.2.2.1 7))) rfl ⟨rfl, rfl⟩
  rw [if_neg hs114] at h
  by_cases hs116 : ((p0).toInt - 0).toNat = 7
  · rw [if_pos hs116] at h
    refine pG_tsi (t := 124) (j := 7) (o := 123) rfl hs101 hs116 rfl rfl ?_
    refine pG_many 1 (pc1 := 125) (L1 := [some (.ref 0), some (.int p0)]) (st1 := [.ref 0]) (M1 := mjTo Z) rfl ?_
    refine pG_getR (ci := 11) (f := 2) (b := Z.2.2.1) rfl rfl rfl (by rfl) rfl ?_
    have hk117 : mjIs Z.2.2.1 251 2 = true := by
      by_cases q9 : mjIs Z.2.2.1 251 2 = true
      · exact q9
      · rw [if_neg q9] at h; cases h
    rw [if_pos hk117] at h
    refine pG_getI (ci := 2) (f := 6) rfl rfl (Or.inl rfl) hk117 ?_
    simp only [Option.some.injEq] at h
    subst h
    exact pG_ret (r := some (.int (Z.1 Z.2.2.1 6))) rfl ⟨rfl, rfl⟩
  rw [if_neg hs116] at h
  by_cases hs118 : ((p0).toInt - 0).toNat = 8
  · rw [if_pos hs118] at h
    refine pG_tsi (t := 132) (j := 8) (o := 131) rfl hs101 hs118 rfl rfl ?_
    refine pG_many 1 (pc1 := 133) (L1 := [some (.ref 0), some (.int p0)]) (st1 := [.ref 0]) (M1 := mjTo Z) rfl ?_
    refine pG_getR (ci := 11) (f := 2) (b := Z.2.2.1) rfl rfl rfl (by rfl) rfl ?_
    have hk119 : mjIs Z.2.2.1 251 2 = true := by
      by_cases q9 : mjIs Z.2.2.1 251 2 = true
      · exact q9
      · rw [if_neg q9] at h; cases h
    rw [if_pos hk119] at h
    refine pG_getI (ci := 2) (f := 8) rfl rfl (Or.inl rfl) hk119 ?_
    simp only [Option.some.injEq] at h
    subst h
    exact pG_ret (r := some (.int (Z.1 Z.2.2.1 8))) rfl ⟨rfl, rfl⟩
  rw [if_neg hs118] at h
  by_cases hs120 : ((p0).toInt - 0).toNat = 9
  · rw [if_pos hs120] at h
    refine pG_tsi (t := 140) (j := 9) (o := 139) rfl hs101 hs120 rfl rfl ?_
    refine pG_many 1 (pc1 := 141) (L1 := [some (.ref 0), some (.int p0)]) (st1 := [.ref 0]) (M1 := mjTo Z) rfl ?_
    refine pG_getR (ci := 11) (f := 2) (b := Z.2.2.1) rfl rfl rfl (by rfl) rfl ?_
    have hk121 : mjIs Z.2.2.1 251 2 = true := by
      by_cases q9 : mjIs Z.2.2.1 251 2 = true
      · exact q9
      · rw [if_neg q9] at h; cases h
    rw [if_pos hk121] at h
    refine pG_getI (ci := 2) (f := 9) rfl rfl (Or.inl rfl) hk121 ?_
    simp only [Option.some.injEq] at h
    subst h
    exact pG_ret (r := some (.int (Z.1 Z.2.2.1 9))) rfl ⟨rfl, rfl⟩
  rw [if_neg hs120] at h
  by_cases hs122 : ((p0).toInt - 0).toNat = 10
  · rw [if_pos hs122] at h
    refine pG_tsi (t := 148) (j := 10) (o := 147) rfl hs101 hs122 rfl rfl ?_
    refine pG_many 1 (pc1 := 149) (L1 := [some (.ref 0), some (.int p0)]) (st1 := [.ref 0]) (M1 := mjTo Z) rfl ?_
    refine pG_getR (ci := 11) (f := 2) (b := Z.2.2.1) rfl rfl rfl (by rfl) rfl ?_
    have hk123 : mjIs Z.2.2.1 251 2 = true := by
      by_cases q9 : mjIs Z.2.2.1 251 2 = true
      · exact q9
      · rw [if_neg q9] at h; cases h
    rw [if_pos hk123] at h
    refine pG_getI (ci := 2) (f := 10) rfl rfl (Or.inl rfl) hk123 ?_
    simp only [Option.some.injEq] at h
    subst h
    exact pG_ret (r := some (.int (Z.1 Z.2.2.1 10))) rfl ⟨rfl, rfl⟩
  rw [if_neg hs122] at h
  by_cases hs124 : ((p0).toInt - 0).toNat = 11
  · rw [if_pos hs124] at h
    refine pG_tsi (t := 156) (j := 11) (o := 155) rfl hs101 hs124 rfl rfl ?_
    refine pG_many 1 (pc1 := 157) (L1 := [some (.ref 0), some (.int p0)]) (st1 := [.ref 0]) (M1 := mjTo Z) rfl ?_
    refine pG_getR (ci := 11) (f := 9) (b := 209) rfl rfl rfl (by rfl) rfl ?_
    refine pG_getI (ci := 1) (f := 2) rfl rfl (Or.inl rfl) (by rfl) ?_
    simp only [Option.some.injEq] at h
    subst h
    exact pG_ret (r := some (.int (Z.1 209 2))) rfl ⟨rfl, rfl⟩
  rw [if_neg hs124] at h
  by_cases hs125 : ((p0).toInt - 0).toNat = 12
  · rw [if_pos hs125] at h
    refine pG_tsi (t := 164) (j := 12) (o := 163) rfl hs101 hs125 rfl rfl ?_
    refine pG_many 1 (pc1 := 165) (L1 := [some (.ref 0), some (.int p0)]) (st1 := [.ref 0]) (M1 := mjTo Z) rfl ?_
    refine pG_getI (ci := 11) (f := 1) rfl rfl (Or.inl rfl) (by rfl) ?_
    simp only [Option.some.injEq] at h
    subst h
    exact pG_ret (r := some (.int (Z.1 0 1))) rfl ⟨rfl, rfl⟩
  rw [if_neg hs125] at h
  cases h
def f155_name_j37 (x1 : Int32) (x2 : Int32) (x3 : Int32) (Z : mjZt) : Option Int32 :=
  if mjCmp .ne x1 1 = true then
    some ((-1))
  else
    if mjIs Z.2.2.1 251 2 = true then
    mjBp (f16_hasRule Z.2.2.1 x2 Z) fun v106 =>
    if mjCmp .eq v106 0 = true then
      some ((-1))
    else
      mjBp (f22_nameOfRule Z.2.2.1 x2 Z) fun v110 =>
      mjBp (f130_letter v110 x3 Z) fun v113 =>
      some v113
    else none
theorem f155_name_j37_ok (x1 : Int32) (x2 : Int32) (x3 : Int32) (Z : mjZt) (v9 : Int32) (h : f155_name_j37 x1 x2 x3 Z = some v9) : pG 155 37 [some (.ref 0), some (.int x1), some (.int x2), some (.int x3)] [] (mjTo Z) (fun r M1 => r = some (.int v9) ∧ M1 = mjTo Z) := by
  unfold f155_name_j37 at h
  refine pG_many 2 (pc1 := 39) (L1 := [some (.ref 0), some (.int x1), some (.int x2), some (.int x3)]) (st1 := [.int 1, .int x1]) (M1 := mjTo Z) rfl ?_
  by_cases hc103 : mjCmp .ne x1 1 = true
  · rw [if_pos hc103] at h
    refine pG_cmt (t := 66) rfl rfl hc103 ?_
    refine pG_many 1 (pc1 := 67) (L1 := [some (.ref 0), some (.int x1), some (.int x2), some (.int x3)]) (st1 := [.int ((-1))]) (M1 := mjTo Z) rfl ?_
    simp only [Option.some.injEq] at h
    subst h
    exact pG_ret (r := some (.int ((-1)))) rfl ⟨rfl, rfl⟩
  · rw [if_neg hc103] at h
    refine pG_cmf (t := 66) rfl rfl hc103 ?_
    refine pG_many 1 (pc1 := 43) (L1 := [some (.ref 0), some (.int x1), some (.int x2), some (.int x3)]) (st1 := [.ref 0]) (M1 := mjTo Z) rfl ?_
    refine pG_getR (ci := 11) (f := 2) (b := Z.2.2.1) rfl rfl rfl (by rfl) rfl ?_
    refine pG_many 1 (pc1 := 47) (L1 := [some (.ref 0), some (.int x1), some (.int x2), some (.int x3)]) (st1 := [.int x2, .ref Z.2.2.1]) (M1 := mjTo Z) rfl ?_
    have hk104 : mjIs Z.2.2.1 251 2 = true := by
      by_cases q9 : mjIs Z.2.2.1 251 2 = true
      · exact q9
      · rw [if_neg q9] at h; cases h
    rw [if_pos hk104] at h
    cases hq105 : f16_hasRule Z.2.2.1 x2 Z with
    | none => rw [hq105] at h; cases h
    | some v106 =>
      rw [hq105, mjBp_some] at h
      refine pG_callV (k2 := 16) (As := [.ref Z.2.2.1, .int x2]) (rest := []) rfl rfl rfl rfl rfl (mjRcv_is hk104 (by decide)) (by decide) (f16_hasRule_ok hq105) ?_
      rintro r9 M9 ⟨rfl, rfl⟩
      show pG 155 50 [some (.ref 0), some (.int x1), some (.int x2), some (.int x3)] [.int v106] (mjTo Z) _
      by_cases hc108 : mjCmp .eq v106 0 = true
      · rw [if_pos hc108] at h
        refine pG_ift (t := 66) rfl rfl hc108 ?_
        refine pG_many 1 (pc1 := 67) (L1 := [some (.ref 0), some (.int x1), some (.int x2), some (.int x3)]) (st1 := [.int ((-1))]) (M1 := mjTo Z) rfl ?_
        simp only [Option.some.injEq] at h
        subst h
        exact pG_ret (r := some (.int ((-1)))) rfl ⟨rfl, rfl⟩
      · rw [if_neg hc108] at h
        refine pG_iff (t := 66) rfl rfl hc108 ?_
        refine pG_many 1 (pc1 := 54) (L1 := [some (.ref 0), some (.int x1), some (.int x2), some (.int x3)]) (st1 := [.ref 0]) (M1 := mjTo Z) rfl ?_
        refine pG_getR (ci := 11) (f := 2) (b := Z.2.2.1) rfl rfl rfl (by rfl) rfl ?_
        refine pG_many 1 (pc1 := 58) (L1 := [some (.ref 0), some (.int x1), some (.int x2), some (.int x3)]) (st1 := [.int x2, .ref Z.2.2.1]) (M1 := mjTo Z) rfl ?_
        cases hq109 : f22_nameOfRule Z.2.2.1 x2 Z with
        | none => rw [hq109] at h; cases h
        | some v110 =>
          rw [hq109, mjBp_some] at h
          refine pG_callV (k2 := 22) (As := [.ref Z.2.2.1, .int x2]) (rest := []) rfl rfl rfl rfl rfl (mjRcv_is hk104 (by decide)) (by decide) (f22_nameOfRule_ok hq109) ?_
          rintro r9 M9 ⟨rfl, rfl⟩
          show pG 155 61 [some (.ref 0), some (.int x1), some (.int x2), some (.int x3)] [.long v110] (mjTo Z) _
          refine pG_many 1 (pc1 := 62) (L1 := [some (.ref 0), some (.int x1), some (.int x2), some (.int x3)]) (st1 := [.int x3, .long v110]) (M1 := mjTo Z) rfl ?_
          cases hq112 : f130_letter v110 x3 Z with
          | none => rw [hq112] at h; cases h
          | some v113 =>
            rw [hq112, mjBp_some] at h
            refine pG_call (k2 := 130) (As := [.long v110, .int x3]) (rest := []) rfl (by decide) (f130_letter_ok hq112) ?_
            rintro r9 M9 ⟨rfl, rfl⟩
            show pG 155 65 [some (.ref 0), some (.int x1), some (.int x2), some (.int x3)] [.int v113] (mjTo Z) _
            simp only [Option.some.injEq] at h
            subst h
            exact pG_ret (r := some (.int v113)) rfl ⟨rfl, rfl⟩
def f155_name (p0 : Int32) (p1 : Int32) (p2 : Int32) (Z : mjZt) : Option Int32 :=
  if mjCmp .ge p2 0 = true then
    if mjCmp .ne p0 0 = true then
      f155_name_j37 p0 p1 p2 Z
    else
      if mjIs Z.2.2.1 251 2 = true then
      mjBp (f7_hasTeam Z.2.2.1 p1 Z) fun v117 =>
      if mjCmp .eq v117 0 = true then
        f155_name_j37 p0 p1 p2 Z
      else
        mjBp (f8_runner Z.2.2.1 p1 Z) fun v121 =>
        if mjIs v121 251 7 = true then
        mjBp (f130_letter (Z.2.1 v121 4) p2 Z) fun v125 =>
        some v125
        else none
      else none
  else
    some ((-1))
theorem f155_name_ok {p0 : Int32} {p1 : Int32} {p2 : Int32} {Z : mjZt} {v9 : Int32} (h : f155_name p0 p1 p2 Z = some v9) : pG 155 0 (mjEnt [.ref 0, .int p0, .int p1, .int p2] (mjML 155)) [] (mjTo Z) (fun r M1 => r = some (.int v9) ∧ M1 = mjTo Z) := by
  unfold f155_name at h
  show pG 155 0 [some (.ref 0), some (.int p0), some (.int p1), some (.int p2)] [] (mjTo Z) _
  refine pG_many 1 (pc1 := 1) (L1 := [some (.ref 0), some (.int p0), some (.int p1), some (.int p2)]) (st1 := [.int p2]) (M1 := mjTo Z) rfl ?_
  by_cases hc101 : mjCmp .ge p2 0 = true
  · rw [if_pos hc101] at h
    refine pG_ift (t := 6) rfl rfl hc101 ?_
    refine pG_many 1 (pc1 := 7) (L1 := [some (.ref 0), some (.int p0), some (.int p1), some (.int p2)]) (st1 := [.int p0]) (M1 := mjTo Z) rfl ?_
    by_cases hc102 : mjCmp .ne p0 0 = true
    · rw [if_pos hc102] at h
      refine pG_ift (t := 37) rfl rfl hc102 ?_
      exact f155_name_j37_ok p0 p1 p2 Z v9 h
    · rw [if_neg hc102] at h
      refine pG_iff (t := 37) rfl rfl hc102 ?_
      refine pG_many 1 (pc1 := 11) (L1 := [some (.ref 0), some (.int p0), some (.int p1), some (.int p2)]) (st1 := [.ref 0]) (M1 := mjTo Z) rfl ?_
      refine pG_getR (ci := 11) (f := 2) (b := Z.2.2.1) rfl rfl rfl (by rfl) rfl ?_
      refine pG_many 1 (pc1 := 15) (L1 := [some (.ref 0), some (.int p0), some (.int p1), some (.int p2)]) (st1 := [.int p1, .ref Z.2.2.1]) (M1 := mjTo Z) rfl ?_
      have hk115 : mjIs Z.2.2.1 251 2 = true := by
        by_cases q9 : mjIs Z.2.2.1 251 2 = true
        · exact q9
        · rw [if_neg q9] at h; cases h
      rw [if_pos hk115] at h
      cases hq116 : f7_hasTeam Z.2.2.1 p1 Z with
      | none => rw [hq116] at h; cases h
      | some v117 =>
        rw [hq116, mjBp_some] at h
        refine pG_callV (k2 := 7) (As := [.ref Z.2.2.1, .int p1]) (rest := []) rfl rfl rfl rfl rfl (mjRcv_is hk115 (by decide)) (by decide) (f7_hasTeam_ok hq116) ?_
        rintro r9 M9 ⟨rfl, rfl⟩
        show pG 155 18 [some (.ref 0), some (.int p0), some (.int p1), some (.int p2)] [.int v117] (mjTo Z) _
        by_cases hc119 : mjCmp .eq v117 0 = true
        · rw [if_pos hc119] at h
          refine pG_ift (t := 37) rfl rfl hc119 ?_
          exact f155_name_j37_ok p0 p1 p2 Z v9 h
        · rw [if_neg hc119] at h
          refine pG_iff (t := 37) rfl rfl hc119 ?_
          refine pG_many 1 (pc1 := 22) (L1 := [some (.ref 0), some (.int p0), some (.int p1), some (.int p2)]) (st1 := [.ref 0]) (M1 := mjTo Z) rfl ?_
          refine pG_getR (ci := 11) (f := 2) (b := Z.2.2.1) rfl rfl rfl (by rfl) rfl ?_
          refine pG_many 1 (pc1 := 26) (L1 := [some (.ref 0), some (.int p0), some (.int p1), some (.int p2)]) (st1 := [.int p1, .ref Z.2.2.1]) (M1 := mjTo Z) rfl ?_
          cases hq120 : f8_runner Z.2.2.1 p1 Z with
          | none => rw [hq120] at h; cases h
          | some v121 =>
            rw [hq120, mjBp_some] at h
            refine pG_callV (k2 := 8) (As := [.ref Z.2.2.1, .int p1]) (rest := []) rfl rfl rfl rfl rfl (mjRcv_is hk115 (by decide)) (by decide) (f8_runner_ok hq120) ?_
            rintro r9 M9 ⟨rfl, rfl⟩
            show pG 155 29 [some (.ref 0), some (.int p0), some (.int p1), some (.int p2)] [.ref v121] (mjTo Z) _
            have hk123 : mjIs v121 251 7 = true := by
              by_cases q9 : mjIs v121 251 7 = true
              · exact q9
              · rw [if_neg q9] at h; cases h
            rw [if_pos hk123] at h
            refine pG_getL (ci := 7) (f := 4) rfl rfl rfl hk123 ?_
            refine pG_many 1 (pc1 := 33) (L1 := [some (.ref 0), some (.int p0), some (.int p1), some (.int p2)]) (st1 := [.int p2, .long (Z.2.1 v121 4)]) (M1 := mjTo Z) rfl ?_
            cases hq124 : f130_letter (Z.2.1 v121 4) p2 Z with
            | none => rw [hq124] at h; cases h
            | some v125 =>
              rw [hq124, mjBp_some] at h
              refine pG_call (k2 := 130) (As := [.long (Z.2.1 v121 4), .int p2]) (rest := []) rfl (by decide) (f130_letter_ok hq124) ?_
              rintro r9 M9 ⟨rfl, rfl⟩
              show pG 155 36 [some (.ref 0), some (.int p0), some (.int p1), some (.int p2)] [.int v125] (mjTo Z) _
              simp only [Option.some.injEq] at h
              subst h
              exact pG_ret (r := some (.int v125)) rfl ⟨rfl, rfl⟩
  · rw [if_neg hc101] at h
    refine pG_iff (t := 6) rfl rfl hc101 ?_
    refine pG_many 1 (pc1 := 5) (L1 := [some (.ref 0), some (.int p0), some (.int p1), some (.int p2)]) (st1 := [.int ((-1))]) (M1 := mjTo Z) rfl ?_
    simp only [Option.some.injEq] at h
    subst h
    exact pG_ret (r := some (.int ((-1)))) rfl ⟨rfl, rfl⟩
def f156_team (p0 : Int32) (p1 : Int32) (Z : mjZt) : Option Int32 :=
  if mjIs Z.2.2.1 251 2 = true then
  mjBp (f7_hasTeam Z.2.2.1 p0 Z) fun v103 =>
  if mjCmp .ne v103 0 = true then
    mjBp (f8_runner Z.2.2.1 p0 Z) fun v107 =>
    if (p1).toInt < 0 ∨ 3 < (p1).toInt then
      some ((-1))
    else if ((p1).toInt - 0).toNat = 0 then
      if mjIs v107 251 7 = true then
      some (Z.1 v107 5)
      else none
    else if ((p1).toInt - 0).toNat = 1 then
      if mjIs v107 251 7 = true then
      some (Z.1 v107 6)
      else none
    else if ((p1).toInt - 0).toNat = 2 then
      if mjIs v107 251 7 = true then
      mjBp (f99_time v107 Z) fun v117 =>
      some v117
      else none
    else if ((p1).toInt - 0).toNat = 3 then
      mjBp (f23_isWhole Z.2.2.1 p0 Z) fun v121 =>
      if mjCmp .eq v121 0 = true then
        some 0
      else
        some 1
    else none
  else
    some ((-1))
  else none
theorem f156_team_ok {p0 : Int32} {p1 : Int32} {Z : mjZt} {v9 : Int32} (h : f156_team p0 p1 Z = some v9) : pG 156 0 (mjEnt [.ref 0, .int p0, .int p1] (mjML 156)) [] (mjTo Z) (fun r M1 => r = some (.int v9) ∧ M1 = mjTo Z) := by
  unfold f156_team at h
  show pG 156 0 [some (.ref 0), some (.int p0), some (.int p1), none] [] (mjTo Z) _
  refine pG_many 1 (pc1 := 1) (L1 := [some (.ref 0), some (.int p0), some (.int p1), none]) (st1 := [.ref 0]) (M1 := mjTo Z) rfl ?_
  refine pG_getR (ci := 11) (f := 2) (b := Z.2.2.1) rfl rfl rfl (by rfl) rfl ?_
  refine pG_many 1 (pc1 := 5) (L1 := [some (.ref 0), some (.int p0), some (.int p1), none]) (st1 := [.int p0, .ref Z.2.2.1]) (M1 := mjTo Z) rfl ?_
  have hk101 : mjIs Z.2.2.1 251 2 = true := by
    by_cases q9 : mjIs Z.2.2.1 251 2 = true
    · exact q9
    · rw [if_neg q9] at h; cases h
  rw [if_pos hk101] at h
  cases hq102 : f7_hasTeam Z.2.2.1 p0 Z with
  | none => rw [hq102] at h; cases h
  | some v103 =>
    rw [hq102, mjBp_some] at h
    refine pG_callV (k2 := 7) (As := [.ref Z.2.2.1, .int p0]) (rest := []) rfl rfl rfl rfl rfl (mjRcv_is hk101 (by decide)) (by decide) (f7_hasTeam_ok hq102) ?_
    rintro r9 M9 ⟨rfl, rfl⟩
    show pG 156 8 [some (.ref 0), some (.int p0), some (.int p1), none] [.int v103] (mjTo Z) _
    by_cases hc105 : mjCmp .ne v103 0 = true
    · rw [if_pos hc105] at h
      refine pG_ift (t := 13) rfl rfl hc105 ?_
      refine pG_many 1 (pc1 := 14) (L1 := [some (.ref 0), some (.int p0), some (.int p1), none]) (st1 := [.ref 0]) (M1 := mjTo Z) rfl ?_
      refine pG_getR (ci := 11) (f := 2) (b := Z.2.2.1) rfl rfl rfl (by rfl) rfl ?_
      refine pG_many 1 (pc1 := 18) (L1 := [some (.ref 0), some (.int p0), some (.int p1), none]) (st1 := [.int p0, .ref Z.2.2.1]) (M1 := mjTo Z) rfl ?_
      cases hq106 : f8_runner Z.2.2.1 p0 Z with
      | none => rw [hq106] at h; cases h
      | some v107 =>
        rw [hq106, mjBp_some] at h
        refine pG_callV (k2 := 8) (As := [.ref Z.2.2.1, .int p0]) (rest := []) rfl rfl rfl rfl rfl (mjRcv_is hk101 (by decide)) (by decide) (f8_runner_ok hq106) ?_
        rintro r9 M9 ⟨rfl, rfl⟩
        show pG 156 21 [some (.ref 0), some (.int p0), some (.int p1), none] [.ref v107] (mjTo Z) _
        refine pG_many 2 (pc1 := 23) (L1 := [some (.ref 0), some (.int p0), some (.int p1), some (.ref v107)]) (st1 := [.int p1]) (M1 := mjTo Z) rfl ?_
        by_cases hs109 : (p1).toInt < 0 ∨ 3 < (p1).toInt
        · rw [if_pos hs109] at h
          refine pG_tso (t := 84) rfl hs109 rfl ?_
          refine pG_many 1 (pc1 := 85) (L1 := [some (.ref 0), some (.int p0), some (.int p1), some (.ref v107)]) (st1 := [.int ((-1))]) (M1 := mjTo Z) rfl ?_
          simp only [Option.some.injEq] at h
          subst h
          exact pG_ret (r := some (.int ((-1)))) rfl ⟨rfl, rfl⟩
        rw [if_neg hs109] at h
        by_cases hs110 : ((p1).toInt - 0).toNat = 0
        · rw [if_pos hs110] at h
          refine pG_tsi (t := 52) (j := 0) (o := 29) rfl hs109 hs110 rfl rfl ?_
          refine pG_many 1 (pc1 := 53) (L1 := [some (.ref 0), some (.int p0), some (.int p1), some (.ref v107)]) (st1 := [.ref v107]) (M1 := mjTo Z) rfl ?_
          have hk111 : mjIs v107 251 7 = true := by
            by_cases q9 : mjIs v107 251 7 = true
            · exact q9
            · rw [if_neg q9] at h; cases h
          rw [if_pos hk111] at h
          refine pG_getI (ci := 7) (f := 5) rfl rfl (Or.inl rfl) hk111 ?_
          simp only [Option.some.injEq] at h
          subst h
          exact pG_ret (r := some (.int (Z.1 v107 5))) rfl ⟨rfl, rfl⟩
        rw [if_neg hs110] at h
        by_cases hs112 : ((p1).toInt - 0).toNat = 1
        · rw [if_pos hs112] at h
          refine pG_tsi (t := 57) (j := 1) (o := 34) rfl hs109 hs112 rfl rfl ?_
          refine pG_many 1 (pc1 := 58) (L1 := [some (.ref 0), some (.int p0), some (.int p1), some (.ref v107)]) (st1 := [.ref v107]) (M1 := mjTo Z) rfl ?_
          have hk113 : mjIs v107 251 7 = true := by
            by_cases q9 : mjIs v107 251 7 = true
            · exact q9
            · rw [if_neg q9] at h; cases h
          rw [if_pos hk113] at h
          refine pG_getI (ci := 7) (f := 6) rfl rfl (Or.inl rfl) hk113 ?_
          simp only [Option.some.injEq] at h
          subst h
          exact pG_ret (r := some (.int (Z.1 v107 6))) rfl ⟨rfl, rfl⟩
        rw [if_neg hs112] at h
        by_cases hs114 : ((p1).toInt - 0).toNat = 2
        · rw [if_pos hs114] at h
          refine pG_tsi (t := 62) (j := 2) (o := 39) rfl hs109 hs114 rfl rfl ?_
          refine pG_many 1 (pc1 := 63) (L1 := [some (.ref 0), some (.int p0), some (.int p1), some (.ref v107)]) (st1 := [.ref v107]) (M1 := mjTo Z) rfl ?_
          have hk115 : mjIs v107 251 7 = true := by
            by_cases q9 : mjIs v107 251 7 = true
            · exact q9
            · rw [if_neg q9] at h; cases h
          rw [if_pos hk115] at h
          cases hq116 : f99_time v107 Z with
          | none => rw [hq116] at h; cases h
          | some v117 =>
            rw [hq116, mjBp_some] at h
            refine pG_callV (k2 := 99) (As := [.ref v107]) (rest := []) rfl rfl rfl rfl rfl (mjRcv_is hk115 (by decide)) (by decide) (f99_time_ok hq116) ?_
            rintro r9 M9 ⟨rfl, rfl⟩
            show pG 156 66 [some (.ref 0), some (.int p0), some (.int p1), some (.ref v107)] [.int v117] (mjTo Z) _
            simp only [Option.some.injEq] at h
            subst h
            exact pG_ret (r := some (.int v117)) rfl ⟨rfl, rfl⟩
        rw [if_neg hs114] at h
        by_cases hs119 : ((p1).toInt - 0).toNat = 3
        · rw [if_pos hs119] at h
          refine pG_tsi (t := 67) (j := 3) (o := 44) rfl hs109 hs119 rfl rfl ?_
          refine pG_many 1 (pc1 := 68) (L1 := [some (.ref 0), some (.int p0), some (.int p1), some (.ref v107)]) (st1 := [.ref 0]) (M1 := mjTo Z) rfl ?_
          refine pG_getR (ci := 11) (f := 2) (b := Z.2.2.1) rfl rfl rfl (by rfl) rfl ?_
          refine pG_many 1 (pc1 := 72) (L1 := [some (.ref 0), some (.int p0), some (.int p1), some (.ref v107)]) (st1 := [.int p0, .ref Z.2.2.1]) (M1 := mjTo Z) rfl ?_
          cases hq120 : f23_isWhole Z.2.2.1 p0 Z with
          | none => rw [hq120] at h; cases h
          | some v121 =>
            rw [hq120, mjBp_some] at h
            refine pG_callV (k2 := 23) (As := [.ref Z.2.2.1, .int p0]) (rest := []) rfl rfl rfl rfl rfl (mjRcv_is hk101 (by decide)) (by decide) (f23_isWhole_ok hq120) ?_
            rintro r9 M9 ⟨rfl, rfl⟩
            show pG 156 75 [some (.ref 0), some (.int p0), some (.int p1), some (.ref v107)] [.int v121] (mjTo Z) _
            by_cases hc123 : mjCmp .eq v121 0 = true
            · rw [if_pos hc123] at h
              refine pG_ift (t := 82) rfl rfl hc123 ?_
              refine pG_many 1 (pc1 := 83) (L1 := [some (.ref 0), some (.int p0), some (.int p1), some (.ref v107)]) (st1 := [.int 0]) (M1 := mjTo Z) rfl ?_
              simp only [Option.some.injEq] at h
              subst h
              exact pG_ret (r := some (.int 0)) rfl ⟨rfl, rfl⟩
            · rw [if_neg hc123] at h
              refine pG_iff (t := 82) rfl rfl hc123 ?_
              refine pG_many 2 (pc1 := 83) (L1 := [some (.ref 0), some (.int p0), some (.int p1), some (.ref v107)]) (st1 := [.int 1]) (M1 := mjTo Z) rfl ?_
              simp only [Option.some.injEq] at h
              subst h
              exact pG_ret (r := some (.int 1)) rfl ⟨rfl, rfl⟩
        rw [if_neg hs119] at h
        cases h
    · rw [if_neg hc105] at h
      refine pG_iff (t := 13) rfl rfl hc105 ?_
      refine pG_many 1 (pc1 := 12) (L1 := [some (.ref 0), some (.int p0), some (.int p1), none]) (st1 := [.int ((-1))]) (M1 := mjTo Z) rfl ?_
      simp only [Option.some.injEq] at h
      subst h
      exact pG_ret (r := some (.int ((-1)))) rfl ⟨rfl, rfl⟩
def f157_lane (p0 : Int32) (Z : mjZt) : Option Int32 :=
  if mjIs Z.2.2.1 251 2 = true then
  mjBp (f24_teamInLane Z.2.2.1 p0 Z) fun v103 =>
  some v103
  else none
theorem f157_lane_ok {p0 : Int32} {Z : mjZt} {v9 : Int32} (h : f157_lane p0 Z = some v9) : pG 157 0 (mjEnt [.ref 0, .int p0] (mjML 157)) [] (mjTo Z) (fun r M1 => r = some (.int v9) ∧ M1 = mjTo Z) := by
  unfold f157_lane at h
  show pG 157 0 [some (.ref 0), some (.int p0)] [] (mjTo Z) _
  refine pG_many 1 (pc1 := 1) (L1 := [some (.ref 0), some (.int p0)]) (st1 := [.ref 0]) (M1 := mjTo Z) rfl ?_
  refine pG_getR (ci := 11) (f := 2) (b := Z.2.2.1) rfl rfl rfl (by rfl) rfl ?_
  refine pG_many 1 (pc1 := 5) (L1 := [some (.ref 0), some (.int p0)]) (st1 := [.int p0, .ref Z.2.2.1]) (M1 := mjTo Z) rfl ?_
  have hk101 : mjIs Z.2.2.1 251 2 = true := by
    by_cases q9 : mjIs Z.2.2.1 251 2 = true
    · exact q9
    · rw [if_neg q9] at h; cases h
  rw [if_pos hk101] at h
  cases hq102 : f24_teamInLane Z.2.2.1 p0 Z with
  | none => rw [hq102] at h; cases h
  | some v103 =>
    rw [hq102, mjBp_some] at h
    refine pG_callV (k2 := 24) (As := [.ref Z.2.2.1, .int p0]) (rest := []) rfl rfl rfl rfl rfl (mjRcv_is hk101 (by decide)) (by decide) (f24_teamInLane_ok hq102) ?_
    rintro r9 M9 ⟨rfl, rfl⟩
    show pG 157 8 [some (.ref 0), some (.int p0)] [.int v103] (mjTo Z) _
    simp only [Option.some.injEq] at h
    subst h
    exact pG_ret (r := some (.int v103)) rfl ⟨rfl, rfl⟩
def f158_isTenth (p0 : Int32) (Z : mjZt) : Option Int32 :=
  if mjCmp .lt p0 0 = true then
    some 0
  else
    if mjCmp .gt p0 9999 = true then
      some 0
    else
      some 1
theorem f158_isTenth_ok {p0 : Int32} {Z : mjZt} {v9 : Int32} (h : f158_isTenth p0 Z = some v9) : pG 158 0 (mjEnt [.int p0] (mjML 158)) [] (mjTo Z) (fun r M1 => r = some (.int v9) ∧ M1 = mjTo Z) := by
  unfold f158_isTenth at h
  show pG 158 0 [some (.int p0)] [] (mjTo Z) _
  refine pG_many 1 (pc1 := 1) (L1 := [some (.int p0)]) (st1 := [.int p0]) (M1 := mjTo Z) rfl ?_
  by_cases hc101 : mjCmp .lt p0 0 = true
  · rw [if_pos hc101] at h
    refine pG_ift (t := 15) rfl rfl hc101 ?_
    refine pG_many 1 (pc1 := 16) (L1 := [some (.int p0)]) (st1 := [.int 0]) (M1 := mjTo Z) rfl ?_
    simp only [Option.some.injEq] at h
    subst h
    exact pG_ret (r := some (.int 0)) rfl ⟨rfl, rfl⟩
  · rw [if_neg hc101] at h
    refine pG_iff (t := 15) rfl rfl hc101 ?_
    refine pG_many 2 (pc1 := 8) (L1 := [some (.int p0)]) (st1 := [.int 9999, .int p0]) (M1 := mjTo Z) rfl ?_
    by_cases hc102 : mjCmp .gt p0 9999 = true
    · rw [if_pos hc102] at h
      refine pG_cmt (t := 15) rfl rfl hc102 ?_
      refine pG_many 1 (pc1 := 16) (L1 := [some (.int p0)]) (st1 := [.int 0]) (M1 := mjTo Z) rfl ?_
      simp only [Option.some.injEq] at h
      subst h
      exact pG_ret (r := some (.int 0)) rfl ⟨rfl, rfl⟩
    · rw [if_neg hc102] at h
      refine pG_cmf (t := 15) rfl rfl hc102 ?_
      refine pG_many 2 (pc1 := 16) (L1 := [some (.int p0)]) (st1 := [.int 1]) (M1 := mjTo Z) rfl ?_
      simp only [Option.some.injEq] at h
      subst h
      exact pG_ret (r := some (.int 1)) rfl ⟨rfl, rfl⟩
def f159_place (p0 : Int32) (p1 : Int32) (Z : mjZt) : Option Int32 :=
  if mjIs Z.2.2.1 251 2 = true then
  mjBp (f7_hasTeam Z.2.2.1 p0 Z) fun v103 =>
  if mjCmp .eq v103 0 = true then
    some ((-1))
  else
    mjBp (f158_isTenth p1 Z) fun v107 =>
    if mjCmp .ne v107 0 = true then
      mjBp (f8_runner Z.2.2.1 p0 Z) fun v111 =>
      if mjIs v111 251 7 = true then
      mjBp (f73_whereAt v111 p1 Z) fun v115 =>
      some v115
      else none
    else
      some ((-1))
  else none
theorem f159_place_ok {p0 : Int32} {p1 : Int32} {Z : mjZt} {v9 : Int32} (h : f159_place p0 p1 Z = some v9) : pG 159 0 (mjEnt [.ref 0, .int p0, .int p1] (mjML 159)) [] (mjTo Z) (fun r M1 => r = some (.int v9) ∧ M1 = mjTo Z) := by
  unfold f159_place at h
  show pG 159 0 [some (.ref 0), some (.int p0), some (.int p1)] [] (mjTo Z) _
  refine pG_many 1 (pc1 := 1) (L1 := [some (.ref 0), some (.int p0), some (.int p1)]) (st1 := [.ref 0]) (M1 := mjTo Z) rfl ?_
  refine pG_getR (ci := 11) (f := 2) (b := Z.2.2.1) rfl rfl rfl (by rfl) rfl ?_
  refine pG_many 1 (pc1 := 5) (L1 := [some (.ref 0), some (.int p0), some (.int p1)]) (st1 := [.int p0, .ref Z.2.2.1]) (M1 := mjTo Z) rfl ?_
  have hk101 : mjIs Z.2.2.1 251 2 = true := by
    by_cases q9 : mjIs Z.2.2.1 251 2 = true
    · exact q9
    · rw [if_neg q9] at h; cases h
  rw [if_pos hk101] at h
  cases hq102 : f7_hasTeam Z.2.2.1 p0 Z with
  | none => rw [hq102] at h; cases h
  | some v103 =>
    rw [hq102, mjBp_some] at h
    refine pG_callV (k2 := 7) (As := [.ref Z.2.2.1, .int p0]) (rest := []) rfl rfl rfl rfl rfl (mjRcv_is hk101 (by decide)) (by decide) (f7_hasTeam_ok hq102) ?_
    rintro r9 M9 ⟨rfl, rfl⟩
    show pG 159 8 [some (.ref 0), some (.int p0), some (.int p1)] [.int v103] (mjTo Z) _
    by_cases hc105 : mjCmp .eq v103 0 = true
    · rw [if_pos hc105] at h
      refine pG_ift (t := 18) rfl rfl hc105 ?_
      refine pG_many 1 (pc1 := 19) (L1 := [some (.ref 0), some (.int p0), some (.int p1)]) (st1 := [.int ((-1))]) (M1 := mjTo Z) rfl ?_
      simp only [Option.some.injEq] at h
      subst h
      exact pG_ret (r := some (.int ((-1)))) rfl ⟨rfl, rfl⟩
    · rw [if_neg hc105] at h
      refine pG_iff (t := 18) rfl rfl hc105 ?_
      refine pG_many 1 (pc1 := 12) (L1 := [some (.ref 0), some (.int p0), some (.int p1)]) (st1 := [.int p1]) (M1 := mjTo Z) rfl ?_
      cases hq106 : f158_isTenth p1 Z with
      | none => rw [hq106] at h; cases h
      | some v107 =>
        rw [hq106, mjBp_some] at h
        refine pG_call (k2 := 158) (As := [.int p1]) (rest := []) rfl (by decide) (f158_isTenth_ok hq106) ?_
        rintro r9 M9 ⟨rfl, rfl⟩
        show pG 159 15 [some (.ref 0), some (.int p0), some (.int p1)] [.int v107] (mjTo Z) _
        by_cases hc109 : mjCmp .ne v107 0 = true
        · rw [if_pos hc109] at h
          refine pG_ift (t := 20) rfl rfl hc109 ?_
          refine pG_many 1 (pc1 := 21) (L1 := [some (.ref 0), some (.int p0), some (.int p1)]) (st1 := [.ref 0]) (M1 := mjTo Z) rfl ?_
          refine pG_getR (ci := 11) (f := 2) (b := Z.2.2.1) rfl rfl rfl (by rfl) rfl ?_
          refine pG_many 1 (pc1 := 25) (L1 := [some (.ref 0), some (.int p0), some (.int p1)]) (st1 := [.int p0, .ref Z.2.2.1]) (M1 := mjTo Z) rfl ?_
          cases hq110 : f8_runner Z.2.2.1 p0 Z with
          | none => rw [hq110] at h; cases h
          | some v111 =>
            rw [hq110, mjBp_some] at h
            refine pG_callV (k2 := 8) (As := [.ref Z.2.2.1, .int p0]) (rest := []) rfl rfl rfl rfl rfl (mjRcv_is hk101 (by decide)) (by decide) (f8_runner_ok hq110) ?_
            rintro r9 M9 ⟨rfl, rfl⟩
            show pG 159 28 [some (.ref 0), some (.int p0), some (.int p1)] [.ref v111] (mjTo Z) _
            refine pG_many 1 (pc1 := 29) (L1 := [some (.ref 0), some (.int p0), some (.int p1)]) (st1 := [.int p1, .ref v111]) (M1 := mjTo Z) rfl ?_
            have hk113 : mjIs v111 251 7 = true := by
              by_cases q9 : mjIs v111 251 7 = true
              · exact q9
              · rw [if_neg q9] at h; cases h
            rw [if_pos hk113] at h
            cases hq114 : f73_whereAt v111 p1 Z with
            | none => rw [hq114] at h; cases h
            | some v115 =>
              rw [hq114, mjBp_some] at h
              refine pG_callV (k2 := 73) (As := [.ref v111, .int p1]) (rest := []) rfl rfl rfl rfl rfl (mjRcv_is hk113 (by decide)) (by decide) (f73_whereAt_ok hq114) ?_
              rintro r9 M9 ⟨rfl, rfl⟩
              show pG 159 32 [some (.ref 0), some (.int p0), some (.int p1)] [.int v115] (mjTo Z) _
              simp only [Option.some.injEq] at h
              subst h
              exact pG_ret (r := some (.int v115)) rfl ⟨rfl, rfl⟩
        · rw [if_neg hc109] at h
          refine pG_iff (t := 20) rfl rfl hc109 ?_
          refine pG_many 1 (pc1 := 19) (L1 := [some (.ref 0), some (.int p0), some (.int p1)]) (st1 := [.int ((-1))]) (M1 := mjTo Z) rfl ?_
          simp only [Option.some.injEq] at h
          subst h
          exact pG_ret (r := some (.int ((-1)))) rfl ⟨rfl, rfl⟩
def f160_comes (p0 : Int32) (p1 : Int32) (Z : mjZt) : Option Int32 :=
  if mjIs Z.2.2.1 251 2 = true then
  mjBp (f7_hasTeam Z.2.2.1 p0 Z) fun v103 =>
  if mjCmp .eq v103 0 = true then
    some ((-1))
  else
    if mjCmp .ge p1 0 = true then
      mjBp (f8_runner Z.2.2.1 p0 Z) fun v108 =>
      if mjIs v108 251 7 = true then
      mjBp (f104_arrival v108 p1 Z) fun v112 =>
      some v112
      else none
    else
      some ((-1))
  else none
theorem f160_comes_ok {p0 : Int32} {p1 : Int32} {Z : mjZt} {v9 : Int32} (h : f160_comes p0 p1 Z = some v9) : pG 160 0 (mjEnt [.ref 0, .int p0, .int p1] (mjML 160)) [] (mjTo Z) (fun r M1 => r = some (.int v9) ∧ M1 = mjTo Z) := by
  unfold f160_comes at h
  show pG 160 0 [some (.ref 0), some (.int p0), some (.int p1)] [] (mjTo Z) _
  refine pG_many 1 (pc1 := 1) (L1 := [some (.ref 0), some (.int p0), some (.int p1)]) (st1 := [.ref 0]) (M1 := mjTo Z) rfl ?_
  refine pG_getR (ci := 11) (f := 2) (b := Z.2.2.1) rfl rfl rfl (by rfl) rfl ?_
  refine pG_many 1 (pc1 := 5) (L1 := [some (.ref 0), some (.int p0), some (.int p1)]) (st1 := [.int p0, .ref Z.2.2.1]) (M1 := mjTo Z) rfl ?_
  have hk101 : mjIs Z.2.2.1 251 2 = true := by
    by_cases q9 : mjIs Z.2.2.1 251 2 = true
    · exact q9
    · rw [if_neg q9] at h; cases h
  rw [if_pos hk101] at h
  cases hq102 : f7_hasTeam Z.2.2.1 p0 Z with
  | none => rw [hq102] at h; cases h
  | some v103 =>
    rw [hq102, mjBp_some] at h
    refine pG_callV (k2 := 7) (As := [.ref Z.2.2.1, .int p0]) (rest := []) rfl rfl rfl rfl rfl (mjRcv_is hk101 (by decide)) (by decide) (f7_hasTeam_ok hq102) ?_
    rintro r9 M9 ⟨rfl, rfl⟩
    show pG 160 8 [some (.ref 0), some (.int p0), some (.int p1)] [.int v103] (mjTo Z) _
    by_cases hc105 : mjCmp .eq v103 0 = true
    · rw [if_pos hc105] at h
      refine pG_ift (t := 15) rfl rfl hc105 ?_
      refine pG_many 1 (pc1 := 16) (L1 := [some (.ref 0), some (.int p0), some (.int p1)]) (st1 := [.int ((-1))]) (M1 := mjTo Z) rfl ?_
      simp only [Option.some.injEq] at h
      subst h
      exact pG_ret (r := some (.int ((-1)))) rfl ⟨rfl, rfl⟩
    · rw [if_neg hc105] at h
      refine pG_iff (t := 15) rfl rfl hc105 ?_
      refine pG_many 1 (pc1 := 12) (L1 := [some (.ref 0), some (.int p0), some (.int p1)]) (st1 := [.int p1]) (M1 := mjTo Z) rfl ?_
      by_cases hc106 : mjCmp .ge p1 0 = true
      · rw [if_pos hc106] at h
        refine pG_ift (t := 17) rfl rfl hc106 ?_
        refine pG_many 1 (pc1 := 18) (L1 := [some (.ref 0), some (.int p0), some (.int p1)]) (st1 := [.ref 0]) (M1 := mjTo Z) rfl ?_
        refine pG_getR (ci := 11) (f := 2) (b := Z.2.2.1) rfl rfl rfl (by rfl) rfl ?_
        refine pG_many 1 (pc1 := 22) (L1 := [some (.ref 0), some (.int p0), some (.int p1)]) (st1 := [.int p0, .ref Z.2.2.1]) (M1 := mjTo Z) rfl ?_
        cases hq107 : f8_runner Z.2.2.1 p0 Z with
        | none => rw [hq107] at h; cases h
        | some v108 =>
          rw [hq107, mjBp_some] at h
          refine pG_callV (k2 := 8) (As := [.ref Z.2.2.1, .int p0]) (rest := []) rfl rfl rfl rfl rfl (mjRcv_is hk101 (by decide)) (by decide) (f8_runner_ok hq107) ?_
          rintro r9 M9 ⟨rfl, rfl⟩
          show pG 160 25 [some (.ref 0), some (.int p0), some (.int p1)] [.ref v108] (mjTo Z) _
          refine pG_many 1 (pc1 := 26) (L1 := [some (.ref 0), some (.int p0), some (.int p1)]) (st1 := [.int p1, .ref v108]) (M1 := mjTo Z) rfl ?_
          have hk110 : mjIs v108 251 7 = true := by
            by_cases q9 : mjIs v108 251 7 = true
            · exact q9
            · rw [if_neg q9] at h; cases h
          rw [if_pos hk110] at h
          cases hq111 : f104_arrival v108 p1 Z with
          | none => rw [hq111] at h; cases h
          | some v112 =>
            rw [hq111, mjBp_some] at h
            refine pG_callV (k2 := 104) (As := [.ref v108, .int p1]) (rest := []) rfl rfl rfl rfl rfl (mjRcv_is hk110 (by decide)) (by decide) (f104_arrival_ok hq111) ?_
            rintro r9 M9 ⟨rfl, rfl⟩
            show pG 160 29 [some (.ref 0), some (.int p0), some (.int p1)] [.int v112] (mjTo Z) _
            simp only [Option.some.injEq] at h
            subst h
            exact pG_ret (r := some (.int v112)) rfl ⟨rfl, rfl⟩
      · rw [if_neg hc106] at h
        refine pG_iff (t := 17) rfl rfl hc106 ?_
        refine pG_many 1 (pc1 := 16) (L1 := [some (.ref 0), some (.int p0), some (.int p1)]) (st1 := [.int ((-1))]) (M1 := mjTo Z) rfl ?_
        simp only [Option.some.injEq] at h
        subst h
        exact pG_ret (r := some (.int ((-1)))) rfl ⟨rfl, rfl⟩
def f161_order (p0 : Int32) (p1 : Int32) (Z : mjZt) : Option (Int32 × mjZt) :=
  mjBp (f158_isTenth p0 Z) fun v102 =>
  if mjCmp .eq v102 0 = true then
    some ((-1), Z)
  else
    mjBd (f98_kthAt Z.2.2.1 p0 p1 Z) fun v106 Z107 =>
    some (v106, Z107)
theorem f161_order_ok {p0 : Int32} {p1 : Int32} {Z : mjZt} {v9 : Int32} {Z9 : mjZt} (h : f161_order p0 p1 Z = some (v9, Z9)) : pG 161 0 (mjEnt [.ref 0, .int p0, .int p1] (mjML 161)) [] (mjTo Z) (fun r M1 => r = some (.int v9) ∧ M1 = mjTo Z9) := by
  unfold f161_order at h
  show pG 161 0 [some (.ref 0), some (.int p0), some (.int p1)] [] (mjTo Z) _
  refine pG_many 1 (pc1 := 1) (L1 := [some (.ref 0), some (.int p0), some (.int p1)]) (st1 := [.int p0]) (M1 := mjTo Z) rfl ?_
  cases hq101 : f158_isTenth p0 Z with
  | none => rw [hq101] at h; cases h
  | some v102 =>
    rw [hq101, mjBp_some] at h
    refine pG_call (k2 := 158) (As := [.int p0]) (rest := []) rfl (by decide) (f158_isTenth_ok hq101) ?_
    rintro r9 M9 ⟨rfl, rfl⟩
    show pG 161 4 [some (.ref 0), some (.int p0), some (.int p1)] [.int v102] (mjTo Z) _
    by_cases hc104 : mjCmp .eq v102 0 = true
    · rw [if_pos hc104] at h
      refine pG_ift (t := 23) rfl rfl hc104 ?_
      refine pG_many 1 (pc1 := 24) (L1 := [some (.ref 0), some (.int p0), some (.int p1)]) (st1 := [.int ((-1))]) (M1 := mjTo Z) rfl ?_
      simp only [Option.some.injEq, Prod.mk.injEq] at h
      obtain ⟨rfl, rfl⟩ := h
      exact pG_ret (r := some (.int ((-1)))) rfl ⟨rfl, rfl⟩
    · rw [if_neg hc104] at h
      refine pG_iff (t := 23) rfl rfl hc104 ?_
      refine pG_many 1 (pc1 := 8) (L1 := [some (.ref 0), some (.int p0), some (.int p1)]) (st1 := [.ref 0]) (M1 := mjTo Z) rfl ?_
      refine pG_getR (ci := 11) (f := 5) (b := 188) rfl rfl rfl (by rfl) rfl ?_
      refine pG_many 1 (pc1 := 12) (L1 := [some (.ref 0), some (.int p0), some (.int p1)]) (st1 := [.ref 0, .ref 188]) (M1 := mjTo Z) rfl ?_
      refine pG_getR (ci := 11) (f := 2) (b := Z.2.2.1) rfl rfl rfl (by rfl) rfl ?_
      refine pG_many 2 (pc1 := 17) (L1 := [some (.ref 0), some (.int p0), some (.int p1)]) (st1 := [.int p1, .int p0, .ref Z.2.2.1, .ref 188]) (M1 := mjTo Z) rfl ?_
      cases hq105 : f98_kthAt Z.2.2.1 p0 p1 Z with
      | none => rw [hq105] at h; cases h
      | some w =>
        obtain ⟨v106, Z107⟩ := w
        rw [hq105, mjBd_some] at h
        refine pG_callV (k2 := 98) (As := [.ref 188, .ref Z.2.2.1, .int p0, .int p1]) (rest := []) rfl rfl rfl rfl rfl (by rfl) (by decide) (f98_kthAt_ok hq105) ?_
        rintro r9 M9 ⟨rfl, rfl⟩
        show pG 161 20 [some (.ref 0), some (.int p0), some (.int p1)] [.int v106] (mjTo Z107) _
        refine pG_many 1 (pc1 := 24) (L1 := [some (.ref 0), some (.int p0), some (.int p1)]) (st1 := [.int v106]) (M1 := mjTo Z107) rfl ?_
        simp only [Option.some.injEq, Prod.mk.injEq] at h
        obtain ⟨rfl, rfl⟩ := h
        exact pG_ret (r := some (.int v106)) rfl ⟨rfl, rfl⟩
def f162_boldest (p0 : Int32) (Z : mjZt) : Option Int32 :=
  if mjIs Z.2.2.1 251 2 = true then
  mjBp (f7_hasTeam Z.2.2.1 p0 Z) fun v103 =>
  if mjCmp .eq v103 0 = true then
    some ((-1))
  else
    mjBp (f102_boldestTenth Z.2.2.1 p0 Z) fun v107 =>
    some v107
  else none
theorem f162_boldest_ok {p0 : Int32} {Z : mjZt} {v9 : Int32} (h : f162_boldest p0 Z = some v9) : pG 162 0 (mjEnt [.ref 0, .int p0] (mjML 162)) [] (mjTo Z) (fun r M1 => r = some (.int v9) ∧ M1 = mjTo Z) := by
  unfold f162_boldest at h
  show pG 162 0 [some (.ref 0), some (.int p0)] [] (mjTo Z) _
  refine pG_many 1 (pc1 := 1) (L1 := [some (.ref 0), some (.int p0)]) (st1 := [.ref 0]) (M1 := mjTo Z) rfl ?_
  refine pG_getR (ci := 11) (f := 2) (b := Z.2.2.1) rfl rfl rfl (by rfl) rfl ?_
  refine pG_many 1 (pc1 := 5) (L1 := [some (.ref 0), some (.int p0)]) (st1 := [.int p0, .ref Z.2.2.1]) (M1 := mjTo Z) rfl ?_
  have hk101 : mjIs Z.2.2.1 251 2 = true := by
    by_cases q9 : mjIs Z.2.2.1 251 2 = true
    · exact q9
    · rw [if_neg q9] at h; cases h
  rw [if_pos hk101] at h
  cases hq102 : f7_hasTeam Z.2.2.1 p0 Z with
  | none => rw [hq102] at h; cases h
  | some v103 =>
    rw [hq102, mjBp_some] at h
    refine pG_callV (k2 := 7) (As := [.ref Z.2.2.1, .int p0]) (rest := []) rfl rfl rfl rfl rfl (mjRcv_is hk101 (by decide)) (by decide) (f7_hasTeam_ok hq102) ?_
    rintro r9 M9 ⟨rfl, rfl⟩
    show pG 162 8 [some (.ref 0), some (.int p0)] [.int v103] (mjTo Z) _
    by_cases hc105 : mjCmp .eq v103 0 = true
    · rw [if_pos hc105] at h
      refine pG_ift (t := 26) rfl rfl hc105 ?_
      refine pG_many 1 (pc1 := 27) (L1 := [some (.ref 0), some (.int p0)]) (st1 := [.int ((-1))]) (M1 := mjTo Z) rfl ?_
      simp only [Option.some.injEq] at h
      subst h
      exact pG_ret (r := some (.int ((-1)))) rfl ⟨rfl, rfl⟩
    · rw [if_neg hc105] at h
      refine pG_iff (t := 26) rfl rfl hc105 ?_
      refine pG_many 1 (pc1 := 12) (L1 := [some (.ref 0), some (.int p0)]) (st1 := [.ref 0]) (M1 := mjTo Z) rfl ?_
      refine pG_getR (ci := 11) (f := 5) (b := 188) rfl rfl rfl (by rfl) rfl ?_
      refine pG_many 1 (pc1 := 16) (L1 := [some (.ref 0), some (.int p0)]) (st1 := [.ref 0, .ref 188]) (M1 := mjTo Z) rfl ?_
      refine pG_getR (ci := 11) (f := 2) (b := Z.2.2.1) rfl rfl rfl (by rfl) rfl ?_
      refine pG_many 1 (pc1 := 20) (L1 := [some (.ref 0), some (.int p0)]) (st1 := [.int p0, .ref Z.2.2.1, .ref 188]) (M1 := mjTo Z) rfl ?_
      cases hq106 : f102_boldestTenth Z.2.2.1 p0 Z with
      | none => rw [hq106] at h; cases h
      | some v107 =>
        rw [hq106, mjBp_some] at h
        refine pG_callV (k2 := 102) (As := [.ref 188, .ref Z.2.2.1, .int p0]) (rest := []) rfl rfl rfl rfl rfl (by rfl) (by decide) (f102_boldestTenth_ok hq106) ?_
        rintro r9 M9 ⟨rfl, rfl⟩
        show pG 162 23 [some (.ref 0), some (.int p0)] [.int v107] (mjTo Z) _
        refine pG_many 1 (pc1 := 27) (L1 := [some (.ref 0), some (.int p0)]) (st1 := [.int v107]) (M1 := mjTo Z) rfl ?_
        simp only [Option.some.injEq] at h
        subst h
        exact pG_ret (r := some (.int v107)) rfl ⟨rfl, rfl⟩
def f163_changes (p0 : Int32) (p1 : Int32) (Z : mjZt) : Option Int32 :=
  if mjIs Z.2.2.1 251 2 = true then
  mjBp (f7_hasTeam Z.2.2.1 p0 Z) fun v103 =>
  if mjCmp .eq v103 0 = true then
    some ((-1))
  else
    mjBp (f7_hasTeam Z.2.2.1 p1 Z) fun v107 =>
    if mjCmp .eq v107 0 = true then
      some ((-1))
    else
      if mjCmp .ne p0 p1 = true then
        mjBp (f103_leadChanges Z.2.2.1 p0 p1 Z) fun v112 =>
        some v112
      else
        some ((-1))
  else none
theorem f163_changes_ok {p0 : Int32} {p1 : Int32} {Z : mjZt} {v9 : Int32} (h : f163_changes p0 p1 Z = some v9) : pG 163 0 (mjEnt [.ref 0, .int p0, .int p1] (mjML 163)) [] (mjTo Z) (fun r M1 => r = some (.int v9) ∧ M1 = mjTo Z) := by
  unfold f163_changes at h
  show pG 163 0 [some (.ref 0), some (.int p0), some (.int p1)] [] (mjTo Z) _
  refine pG_many 1 (pc1 := 1) (L1 := [some (.ref 0), some (.int p0), some (.int p1)]) (st1 := [.ref 0]) (M1 := mjTo Z) rfl ?_
  refine pG_getR (ci := 11) (f := 2) (b := Z.2.2.1) rfl rfl rfl (by rfl) rfl ?_
  refine pG_many 1 (pc1 := 5) (L1 := [some (.ref 0), some (.int p0), some (.int p1)]) (st1 := [.int p0, .ref Z.2.2.1]) (M1 := mjTo Z) rfl ?_
  have hk101 : mjIs Z.2.2.1 251 2 = true := by
    by_cases q9 : mjIs Z.2.2.1 251 2 = true
    · exact q9
    · rw [if_neg q9] at h; cases h
  rw [if_pos hk101] at h
  cases hq102 : f7_hasTeam Z.2.2.1 p0 Z with
  | none => rw [hq102] at h; cases h
  | some v103 =>
    rw [hq102, mjBp_some] at h
    refine pG_callV (k2 := 7) (As := [.ref Z.2.2.1, .int p0]) (rest := []) rfl rfl rfl rfl rfl (mjRcv_is hk101 (by decide)) (by decide) (f7_hasTeam_ok hq102) ?_
    rintro r9 M9 ⟨rfl, rfl⟩
    show pG 163 8 [some (.ref 0), some (.int p0), some (.int p1)] [.int v103] (mjTo Z) _
    by_cases hc105 : mjCmp .eq v103 0 = true
    · rw [if_pos hc105] at h
      refine pG_ift (t := 27) rfl rfl hc105 ?_
      refine pG_many 1 (pc1 := 28) (L1 := [some (.ref 0), some (.int p0), some (.int p1)]) (st1 := [.int ((-1))]) (M1 := mjTo Z) rfl ?_
      simp only [Option.some.injEq] at h
      subst h
      exact pG_ret (r := some (.int ((-1)))) rfl ⟨rfl, rfl⟩
    · rw [if_neg hc105] at h
      refine pG_iff (t := 27) rfl rfl hc105 ?_
      refine pG_many 1 (pc1 := 12) (L1 := [some (.ref 0), some (.int p0), some (.int p1)]) (st1 := [.ref 0]) (M1 := mjTo Z) rfl ?_
      refine pG_getR (ci := 11) (f := 2) (b := Z.2.2.1) rfl rfl rfl (by rfl) rfl ?_
      refine pG_many 1 (pc1 := 16) (L1 := [some (.ref 0), some (.int p0), some (.int p1)]) (st1 := [.int p1, .ref Z.2.2.1]) (M1 := mjTo Z) rfl ?_
      cases hq106 : f7_hasTeam Z.2.2.1 p1 Z with
      | none => rw [hq106] at h; cases h
      | some v107 =>
        rw [hq106, mjBp_some] at h
        refine pG_callV (k2 := 7) (As := [.ref Z.2.2.1, .int p1]) (rest := []) rfl rfl rfl rfl rfl (mjRcv_is hk101 (by decide)) (by decide) (f7_hasTeam_ok hq106) ?_
        rintro r9 M9 ⟨rfl, rfl⟩
        show pG 163 19 [some (.ref 0), some (.int p0), some (.int p1)] [.int v107] (mjTo Z) _
        by_cases hc109 : mjCmp .eq v107 0 = true
        · rw [if_pos hc109] at h
          refine pG_ift (t := 27) rfl rfl hc109 ?_
          refine pG_many 1 (pc1 := 28) (L1 := [some (.ref 0), some (.int p0), some (.int p1)]) (st1 := [.int ((-1))]) (M1 := mjTo Z) rfl ?_
          simp only [Option.some.injEq] at h
          subst h
          exact pG_ret (r := some (.int ((-1)))) rfl ⟨rfl, rfl⟩
        · rw [if_neg hc109] at h
          refine pG_iff (t := 27) rfl rfl hc109 ?_
          refine pG_many 2 (pc1 := 24) (L1 := [some (.ref 0), some (.int p0), some (.int p1)]) (st1 := [.int p1, .int p0]) (M1 := mjTo Z) rfl ?_
          by_cases hc110 : mjCmp .ne p0 p1 = true
          · rw [if_pos hc110] at h
            refine pG_cmt (t := 29) rfl rfl hc110 ?_
            refine pG_many 1 (pc1 := 30) (L1 := [some (.ref 0), some (.int p0), some (.int p1)]) (st1 := [.ref 0]) (M1 := mjTo Z) rfl ?_
            refine pG_getR (ci := 11) (f := 5) (b := 188) rfl rfl rfl (by rfl) rfl ?_
            refine pG_many 1 (pc1 := 34) (L1 := [some (.ref 0), some (.int p0), some (.int p1)]) (st1 := [.ref 0, .ref 188]) (M1 := mjTo Z) rfl ?_
            refine pG_getR (ci := 11) (f := 2) (b := Z.2.2.1) rfl rfl rfl (by rfl) rfl ?_
            refine pG_many 2 (pc1 := 39) (L1 := [some (.ref 0), some (.int p0), some (.int p1)]) (st1 := [.int p1, .int p0, .ref Z.2.2.1, .ref 188]) (M1 := mjTo Z) rfl ?_
            cases hq111 : f103_leadChanges Z.2.2.1 p0 p1 Z with
            | none => rw [hq111] at h; cases h
            | some v112 =>
              rw [hq111, mjBp_some] at h
              refine pG_callV (k2 := 103) (As := [.ref 188, .ref Z.2.2.1, .int p0, .int p1]) (rest := []) rfl rfl rfl rfl rfl (by rfl) (by decide) (f103_leadChanges_ok hq111) ?_
              rintro r9 M9 ⟨rfl, rfl⟩
              show pG 163 42 [some (.ref 0), some (.int p0), some (.int p1)] [.int v112] (mjTo Z) _
              simp only [Option.some.injEq] at h
              subst h
              exact pG_ret (r := some (.int v112)) rfl ⟨rfl, rfl⟩
          · rw [if_neg hc110] at h
            refine pG_cmf (t := 29) rfl rfl hc110 ?_
            refine pG_many 1 (pc1 := 28) (L1 := [some (.ref 0), some (.int p0), some (.int p1)]) (st1 := [.int ((-1))]) (M1 := mjTo Z) rfl ?_
            simp only [Option.some.injEq] at h
            subst h
            exact pG_ret (r := some (.int ((-1)))) rfl ⟨rfl, rfl⟩
def f164_cutIn (p0 : Int32) (Z : mjZt) : Option (Int32 × mjZt) :=
  if mjIs Z.2.2.1 251 2 = true then
  if mjCmp .ne (Z.1 Z.2.2.1 4) 0 = true then
    mjBd (f105_kthToCut Z.2.2.1 p0 Z) fun v104 Z105 =>
    some (v104, Z105)
  else
    some ((-1), Z)
  else none
theorem f164_cutIn_ok {p0 : Int32} {Z : mjZt} {v9 : Int32} {Z9 : mjZt} (h : f164_cutIn p0 Z = some (v9, Z9)) : pG 164 0 (mjEnt [.ref 0, .int p0] (mjML 164)) [] (mjTo Z) (fun r M1 => r = some (.int v9) ∧ M1 = mjTo Z9) := by
  unfold f164_cutIn at h
  show pG 164 0 [some (.ref 0), some (.int p0)] [] (mjTo Z) _
  refine pG_many 1 (pc1 := 1) (L1 := [some (.ref 0), some (.int p0)]) (st1 := [.ref 0]) (M1 := mjTo Z) rfl ?_
  refine pG_getR (ci := 11) (f := 2) (b := Z.2.2.1) rfl rfl rfl (by rfl) rfl ?_
  have hk101 : mjIs Z.2.2.1 251 2 = true := by
    by_cases q9 : mjIs Z.2.2.1 251 2 = true
    · exact q9
    · rw [if_neg q9] at h; cases h
  rw [if_pos hk101] at h
  refine pG_getI (ci := 2) (f := 4) rfl rfl (Or.inl rfl) hk101 ?_
  by_cases hc102 : mjCmp .ne (Z.1 Z.2.2.1 4) 0 = true
  · rw [if_pos hc102] at h
    refine pG_ift (t := 14) rfl rfl hc102 ?_
    refine pG_many 1 (pc1 := 15) (L1 := [some (.ref 0), some (.int p0)]) (st1 := [.ref 0]) (M1 := mjTo Z) rfl ?_
    refine pG_getR (ci := 11) (f := 5) (b := 188) rfl rfl rfl (by rfl) rfl ?_
    refine pG_many 1 (pc1 := 19) (L1 := [some (.ref 0), some (.int p0)]) (st1 := [.ref 0, .ref 188]) (M1 := mjTo Z) rfl ?_
    refine pG_getR (ci := 11) (f := 2) (b := Z.2.2.1) rfl rfl rfl (by rfl) rfl ?_
    refine pG_many 1 (pc1 := 23) (L1 := [some (.ref 0), some (.int p0)]) (st1 := [.int p0, .ref Z.2.2.1, .ref 188]) (M1 := mjTo Z) rfl ?_
    cases hq103 : f105_kthToCut Z.2.2.1 p0 Z with
    | none => rw [hq103] at h; cases h
    | some w =>
      obtain ⟨v104, Z105⟩ := w
      rw [hq103, mjBd_some] at h
      refine pG_callV (k2 := 105) (As := [.ref 188, .ref Z.2.2.1, .int p0]) (rest := []) rfl rfl rfl rfl rfl (by rfl) (by decide) (f105_kthToCut_ok hq103) ?_
      rintro r9 M9 ⟨rfl, rfl⟩
      show pG 164 26 [some (.ref 0), some (.int p0)] [.int v104] (mjTo Z105) _
      simp only [Option.some.injEq, Prod.mk.injEq] at h
      obtain ⟨rfl, rfl⟩ := h
      exact pG_ret (r := some (.int v104)) rfl ⟨rfl, rfl⟩
  · rw [if_neg hc102] at h
    refine pG_iff (t := 14) rfl rfl hc102 ?_
    refine pG_many 2 (pc1 := 26) (L1 := [some (.ref 0), some (.int p0)]) (st1 := [.int ((-1))]) (M1 := mjTo Z) rfl ?_
    simp only [Option.some.injEq, Prod.mk.injEq] at h
    obtain ⟨rfl, rfl⟩ := h
    exact pG_ret (r := some (.int ((-1)))) rfl ⟨rfl, rfl⟩
def f165_behind (p0 : Int32) (p1 : Int32) (Z : mjZt) : Option Int32 :=
  if mjIs Z.2.2.1 251 2 = true then
  mjBp (f7_hasTeam Z.2.2.1 p0 Z) fun v103 =>
  if mjCmp .eq v103 0 = true then
    some ((-1))
  else
    if mjCmp .lt p1 1 = true then
      some ((-1))
    else
      if mjCmp .le p1 (Z.1 Z.2.2.1 0) = true then
        mjBp (f106_laterToLine Z.2.2.1 p0 p1 Z) fun v109 =>
        some v109
      else
        some ((-1))
  else none
theorem f165_behind_ok {p0 : Int32} {p1 : Int32} {Z : mjZt} {v9 : Int32} (h : f165_behind p0 p1 Z = some v9) : pG 165 0 (mjEnt [.ref 0, .int p0, .int p1] (mjML 165)) [] (mjTo Z) (fun r M1 => r = some (.int v9) ∧ M1 = mjTo Z) := by
  unfold f165_behind at h
  show pG 165 0 [some (.ref 0), some (.int p0), some (.int p1)] [] (mjTo Z) _
  refine pG_many 1 (pc1 := 1) (L1 := [some (.ref 0), some (.int p0), some (.int p1)]) (st1 := [.ref 0]) (M1 := mjTo Z) rfl ?_
  refine pG_getR (ci := 11) (f := 2) (b := Z.2.2.1) rfl rfl rfl (by rfl) rfl ?_
  refine pG_many 1 (pc1 := 5) (L1 := [some (.ref 0), some (.int p0), some (.int p1)]) (st1 := [.int p0, .ref Z.2.2.1]) (M1 := mjTo Z) rfl ?_
  have hk101 : mjIs Z.2.2.1 251 2 = true := by
    by_cases q9 : mjIs Z.2.2.1 251 2 = true
    · exact q9
    · rw [if_neg q9] at h; cases h
  rw [if_pos hk101] at h
  cases hq102 : f7_hasTeam Z.2.2.1 p0 Z with
  | none => rw [hq102] at h; cases h
  | some v103 =>
    rw [hq102, mjBp_some] at h
    refine pG_callV (k2 := 7) (As := [.ref Z.2.2.1, .int p0]) (rest := []) rfl rfl rfl rfl rfl (mjRcv_is hk101 (by decide)) (by decide) (f7_hasTeam_ok hq102) ?_
    rintro r9 M9 ⟨rfl, rfl⟩
    show pG 165 8 [some (.ref 0), some (.int p0), some (.int p1)] [.int v103] (mjTo Z) _
    by_cases hc105 : mjCmp .eq v103 0 = true
    · rw [if_pos hc105] at h
      refine pG_ift (t := 27) rfl rfl hc105 ?_
      refine pG_many 1 (pc1 := 28) (L1 := [some (.ref 0), some (.int p0), some (.int p1)]) (st1 := [.int ((-1))]) (M1 := mjTo Z) rfl ?_
      simp only [Option.some.injEq] at h
      subst h
      exact pG_ret (r := some (.int ((-1)))) rfl ⟨rfl, rfl⟩
    · rw [if_neg hc105] at h
      refine pG_iff (t := 27) rfl rfl hc105 ?_
      refine pG_many 2 (pc1 := 13) (L1 := [some (.ref 0), some (.int p0), some (.int p1)]) (st1 := [.int 1, .int p1]) (M1 := mjTo Z) rfl ?_
      by_cases hc106 : mjCmp .lt p1 1 = true
      · rw [if_pos hc106] at h
        refine pG_cmt (t := 27) rfl rfl hc106 ?_
        refine pG_many 1 (pc1 := 28) (L1 := [some (.ref 0), some (.int p0), some (.int p1)]) (st1 := [.int ((-1))]) (M1 := mjTo Z) rfl ?_
        simp only [Option.some.injEq] at h
        subst h
        exact pG_ret (r := some (.int ((-1)))) rfl ⟨rfl, rfl⟩
      · rw [if_neg hc106] at h
        refine pG_cmf (t := 27) rfl rfl hc106 ?_
        refine pG_many 2 (pc1 := 18) (L1 := [some (.ref 0), some (.int p0), some (.int p1)]) (st1 := [.ref 0, .int p1]) (M1 := mjTo Z) rfl ?_
        refine pG_getR (ci := 11) (f := 2) (b := Z.2.2.1) rfl rfl rfl (by rfl) rfl ?_
        refine pG_getI (ci := 2) (f := 0) rfl rfl (Or.inl rfl) hk101 ?_
        by_cases hc107 : mjCmp .le p1 (Z.1 Z.2.2.1 0) = true
        · rw [if_pos hc107] at h
          refine pG_cmt (t := 29) rfl rfl hc107 ?_
          refine pG_many 1 (pc1 := 30) (L1 := [some (.ref 0), some (.int p0), some (.int p1)]) (st1 := [.ref 0]) (M1 := mjTo Z) rfl ?_
          refine pG_getR (ci := 11) (f := 5) (b := 188) rfl rfl rfl (by rfl) rfl ?_
          refine pG_many 1 (pc1 := 34) (L1 := [some (.ref 0), some (.int p0), some (.int p1)]) (st1 := [.ref 0, .ref 188]) (M1 := mjTo Z) rfl ?_
          refine pG_getR (ci := 11) (f := 2) (b := Z.2.2.1) rfl rfl rfl (by rfl) rfl ?_
          refine pG_many 2 (pc1 := 39) (L1 := [some (.ref 0), some (.int p0), some (.int p1)]) (st1 := [.int p1, .int p0, .ref Z.2.2.1, .ref 188]) (M1 := mjTo Z) rfl ?_
          cases hq108 : f106_laterToLine Z.2.2.1 p0 p1 Z with
          | none => rw [hq108] at h; cases h
          | some v109 =>
            rw [hq108, mjBp_some] at h
            refine pG_callV (k2 := 106) (As := [.ref 188, .ref Z.2.2.1, .int p0, .int p1]) (rest := []) rfl rfl rfl rfl rfl (by rfl) (by decide) (f106_laterToLine_ok hq108) ?_
            rintro r9 M9 ⟨rfl, rfl⟩
            show pG 165 42 [some (.ref 0), some (.int p0), some (.int p1)] [.int v109] (mjTo Z) _
            simp only [Option.some.injEq] at h
            subst h
            exact pG_ret (r := some (.int v109)) rfl ⟨rfl, rfl⟩
        · rw [if_neg hc107] at h
          refine pG_cmf (t := 29) rfl rfl hc107 ?_
          refine pG_many 1 (pc1 := 28) (L1 := [some (.ref 0), some (.int p0), some (.int p1)]) (st1 := [.int ((-1))]) (M1 := mjTo Z) rfl ?_
          simp only [Option.some.injEq] at h
          subst h
          exact pG_ret (r := some (.int ((-1)))) rfl ⟨rfl, rfl⟩
def f166_crowd (p0 : Int32) (p1 : Int32) (Z : mjZt) : Option Int32 :=
  mjBp (f158_isTenth p0 Z) fun v102 =>
  if mjCmp .eq v102 0 = true then
    some ((-1))
  else
    if mjCmp .ge p1 0 = true then
      mjBp (f107_mostWithin Z.2.2.1 p0 p1 Z) fun v107 =>
      some v107
    else
      some ((-1))
theorem f166_crowd_ok {p0 : Int32} {p1 : Int32} {Z : mjZt} {v9 : Int32} (h : f166_crowd p0 p1 Z = some v9) : pG 166 0 (mjEnt [.ref 0, .int p0, .int p1] (mjML 166)) [] (mjTo Z) (fun r M1 => r = some (.int v9) ∧ M1 = mjTo Z) := by
  unfold f166_crowd at h
  show pG 166 0 [some (.ref 0), some (.int p0), some (.int p1)] [] (mjTo Z) _
  refine pG_many 1 (pc1 := 1) (L1 := [some (.ref 0), some (.int p0), some (.int p1)]) (st1 := [.int p0]) (M1 := mjTo Z) rfl ?_
  cases hq101 : f158_isTenth p0 Z with
  | none => rw [hq101] at h; cases h
  | some v102 =>
    rw [hq101, mjBp_some] at h
    refine pG_call (k2 := 158) (As := [.int p0]) (rest := []) rfl (by decide) (f158_isTenth_ok hq101) ?_
    rintro r9 M9 ⟨rfl, rfl⟩
    show pG 166 4 [some (.ref 0), some (.int p0), some (.int p1)] [.int v102] (mjTo Z) _
    by_cases hc104 : mjCmp .eq v102 0 = true
    · rw [if_pos hc104] at h
      refine pG_ift (t := 11) rfl rfl hc104 ?_
      refine pG_many 1 (pc1 := 12) (L1 := [some (.ref 0), some (.int p0), some (.int p1)]) (st1 := [.int ((-1))]) (M1 := mjTo Z) rfl ?_
      simp only [Option.some.injEq] at h
      subst h
      exact pG_ret (r := some (.int ((-1)))) rfl ⟨rfl, rfl⟩
    · rw [if_neg hc104] at h
      refine pG_iff (t := 11) rfl rfl hc104 ?_
      refine pG_many 1 (pc1 := 8) (L1 := [some (.ref 0), some (.int p0), some (.int p1)]) (st1 := [.int p1]) (M1 := mjTo Z) rfl ?_
      by_cases hc105 : mjCmp .ge p1 0 = true
      · rw [if_pos hc105] at h
        refine pG_ift (t := 13) rfl rfl hc105 ?_
        refine pG_many 1 (pc1 := 14) (L1 := [some (.ref 0), some (.int p0), some (.int p1)]) (st1 := [.ref 0]) (M1 := mjTo Z) rfl ?_
        refine pG_getR (ci := 11) (f := 5) (b := 188) rfl rfl rfl (by rfl) rfl ?_
        refine pG_many 1 (pc1 := 18) (L1 := [some (.ref 0), some (.int p0), some (.int p1)]) (st1 := [.ref 0, .ref 188]) (M1 := mjTo Z) rfl ?_
        refine pG_getR (ci := 11) (f := 2) (b := Z.2.2.1) rfl rfl rfl (by rfl) rfl ?_
        refine pG_many 2 (pc1 := 23) (L1 := [some (.ref 0), some (.int p0), some (.int p1)]) (st1 := [.int p1, .int p0, .ref Z.2.2.1, .ref 188]) (M1 := mjTo Z) rfl ?_
        cases hq106 : f107_mostWithin Z.2.2.1 p0 p1 Z with
        | none => rw [hq106] at h; cases h
        | some v107 =>
          rw [hq106, mjBp_some] at h
          refine pG_callV (k2 := 107) (As := [.ref 188, .ref Z.2.2.1, .int p0, .int p1]) (rest := []) rfl rfl rfl rfl rfl (by rfl) (by decide) (f107_mostWithin_ok hq106) ?_
          rintro r9 M9 ⟨rfl, rfl⟩
          show pG 166 26 [some (.ref 0), some (.int p0), some (.int p1)] [.int v107] (mjTo Z) _
          simp only [Option.some.injEq] at h
          subst h
          exact pG_ret (r := some (.int v107)) rfl ⟨rfl, rfl⟩
      · rw [if_neg hc105] at h
        refine pG_iff (t := 13) rfl rfl hc105 ?_
        refine pG_many 1 (pc1 := 12) (L1 := [some (.ref 0), some (.int p0), some (.int p1)]) (st1 := [.int ((-1))]) (M1 := mjTo Z) rfl ?_
        simp only [Option.some.injEq] at h
        subst h
        exact pG_ret (r := some (.int ((-1)))) rfl ⟨rfl, rfl⟩
def f167_fastest (p0 : Int32) (p1 : Int32) (Z : mjZt) : Option (Int32 × mjZt) :=
  if mjCmp .lt p0 1 = true then
    some ((-1), Z)
  else
    if mjIs Z.2.2.1 251 2 = true then
    if mjCmp .le p0 (Z.1 Z.2.2.1 0) = true then
      mjBd (f109_fastestOf Z.2.2.1 p0 Z) fun v105 Z106 =>
      if mjCmp .ne v105 ((-1)) = true then
        if (p1).toInt < 0 ∨ 2 < (p1).toInt then
          some ((-1), Z106)
        else if ((p1).toInt - 0).toNat = 0 then
          some (v105, Z106)
        else if ((p1).toInt - 0).toNat = 1 then
          if mjIs Z106.2.2.1 251 2 = true then
          mjBp (f8_runner Z106.2.2.1 v105 Z106) fun v113 =>
          if mjIs v113 251 7 = true then
          mjBp (f108_tenthsOf v113 p0 Z106) fun v117 =>
          some (v117, Z106)
          else none
          else none
        else if ((p1).toInt - 0).toNat = 2 then
          mjBp (f110_sumOf Z106.2.2.1 p0 Z106) fun v121 =>
          some (v121, Z106)
        else none
      else
        some ((-1), Z106)
    else
      some ((-1), Z)
    else none
theorem f167_fastest_ok {p0 : Int32} {p1 : Int32} {Z : mjZt} {v9 : Int32} {Z9 : mjZt} (h : f167_fastest p0 p1 Z = some (v9, Z9)) : pG 167 0 (mjEnt [.ref 0, .int p0, .int p1] (mjML 167)) [] (mjTo Z) (fun r M1 => r = some (.int v9) ∧ M1 = mjTo Z9) := by
  unfold f167_fastest at h
  show pG 167 0 [some (.ref 0), some (.int p0), some (.int p1), none] [] (mjTo Z) _
  refine pG_many 2 (pc1 := 2) (L1 := [some (.ref 0), some (.int p0), some (.int p1), none]) (st1 := [.int 1, .int p0]) (M1 := mjTo Z) rfl ?_
  by_cases hc101 : mjCmp .lt p0 1 = true
  · rw [if_pos hc101] at h
    refine pG_cmt (t := 16) rfl rfl hc101 ?_
    refine pG_many 1 (pc1 := 17) (L1 := [some (.ref 0), some (.int p0), some (.int p1), none]) (st1 := [.int ((-1))]) (M1 := mjTo Z) rfl ?_
    simp only [Option.some.injEq, Prod.mk.injEq] at h
    obtain ⟨rfl, rfl⟩ := h
    exact pG_ret (r := some (.int ((-1)))) rfl ⟨rfl, rfl⟩
  · rw [if_neg hc101] at h
    refine pG_cmf (t := 16) rfl rfl hc101 ?_
    refine pG_many 2 (pc1 := 7) (L1 := [some (.ref 0), some (.int p0), some (.int p1), none]) (st1 := [.ref 0, .int p0]) (M1 := mjTo Z) rfl ?_
    refine pG_getR (ci := 11) (f := 2) (b := Z.2.2.1) rfl rfl rfl (by rfl) rfl ?_
    have hk102 : mjIs Z.2.2.1 251 2 = true := by
      by_cases q9 : mjIs Z.2.2.1 251 2 = true
      · exact q9
      · rw [if_neg q9] at h; cases h
    rw [if_pos hk102] at h
    refine pG_getI (ci := 2) (f := 0) rfl rfl (Or.inl rfl) hk102 ?_
    by_cases hc103 : mjCmp .le p0 (Z.1 Z.2.2.1 0) = true
    · rw [if_pos hc103] at h
      refine pG_cmt (t := 18) rfl rfl hc103 ?_
      refine pG_many 1 (pc1 := 19) (L1 := [some (.ref 0), some (.int p0), some (.int p1), none]) (st1 := [.ref 0]) (M1 := mjTo Z) rfl ?_
      refine pG_getR (ci := 11) (f := 5) (b := 188) rfl rfl rfl (by rfl) rfl ?_
      refine pG_many 1 (pc1 := 23) (L1 := [some (.ref 0), some (.int p0), some (.int p1), none]) (st1 := [.ref 0, .ref 188]) (M1 := mjTo Z) rfl ?_
      refine pG_getR (ci := 11) (f := 2) (b := Z.2.2.1) rfl rfl rfl (by rfl) rfl ?_
      refine pG_many 1 (pc1 := 27) (L1 := [some (.ref 0), some (.int p0), some (.int p1), none]) (st1 := [.int p0, .ref Z.2.2.1, .ref 188]) (M1 := mjTo Z) rfl ?_
      cases hq104 : f109_fastestOf Z.2.2.1 p0 Z with
      | none => rw [hq104] at h; cases h
      | some w =>
        obtain ⟨v105, Z106⟩ := w
        rw [hq104, mjBd_some] at h
        refine pG_callV (k2 := 109) (As := [.ref 188, .ref Z.2.2.1, .int p0]) (rest := []) rfl rfl rfl rfl rfl (by rfl) (by decide) (f109_fastestOf_ok hq104) ?_
        rintro r9 M9 ⟨rfl, rfl⟩
        show pG 167 30 [some (.ref 0), some (.int p0), some (.int p1), none] [.int v105] (mjTo Z106) _
        refine pG_many 3 (pc1 := 33) (L1 := [some (.ref 0), some (.int p0), some (.int p1), some (.int v105)]) (st1 := [.int ((-1)), .int v105]) (M1 := mjTo Z106) rfl ?_
        by_cases hc107 : mjCmp .ne v105 ((-1)) = true
        · rw [if_pos hc107] at h
          refine pG_cmt (t := 38) rfl rfl hc107 ?_
          refine pG_many 1 (pc1 := 39) (L1 := [some (.ref 0), some (.int p0), some (.int p1), some (.int v105)]) (st1 := [.int p1]) (M1 := mjTo Z106) rfl ?_
          by_cases hs108 : (p1).toInt < 0 ∨ 2 < (p1).toInt
          · rw [if_pos hs108] at h
            refine pG_tso (t := 92) rfl hs108 rfl ?_
            refine pG_many 1 (pc1 := 93) (L1 := [some (.ref 0), some (.int p0), some (.int p1), some (.int v105)]) (st1 := [.int ((-1))]) (M1 := mjTo Z106) rfl ?_
            simp only [Option.some.injEq, Prod.mk.injEq] at h
            obtain ⟨rfl, rfl⟩ := h
            exact pG_ret (r := some (.int ((-1)))) rfl ⟨rfl, rfl⟩
          rw [if_neg hs108] at h
          by_cases hs109 : ((p1).toInt - 0).toNat = 0
          · rw [if_pos hs109] at h
            refine pG_tsi (t := 64) (j := 0) (o := 25) rfl hs108 hs109 rfl rfl ?_
            refine pG_many 1 (pc1 := 65) (L1 := [some (.ref 0), some (.int p0), some (.int p1), some (.int v105)]) (st1 := [.int v105]) (M1 := mjTo Z106) rfl ?_
            simp only [Option.some.injEq, Prod.mk.injEq] at h
            obtain ⟨rfl, rfl⟩ := h
            exact pG_ret (r := some (.int v105)) rfl ⟨rfl, rfl⟩
          rw [if_neg hs109] at h
          by_cases hs110 : ((p1).toInt - 0).toNat = 1
          · rw [if_pos hs110] at h
            refine pG_tsi (t := 66) (j := 1) (o := 27) rfl hs108 hs110 rfl rfl ?_
            refine pG_many 1 (pc1 := 67) (L1 := [some (.ref 0), some (.int p0), some (.int p1), some (.int v105)]) (st1 := [.ref 0]) (M1 := mjTo Z106) rfl ?_
            refine pG_getR (ci := 11) (f := 2) (b := Z106.2.2.1) rfl rfl rfl (by rfl) rfl ?_
            refine pG_many 1 (pc1 := 71) (L1 := [some (.ref 0), some (.int p0), some (.int p1), some (.int v105)]) (st1 := [.int v105, .ref Z106.2.2.1]) (M1 := mjTo Z106) rfl ?_
            have hk111 : mjIs Z106.2.2.1 251 2 = true := by
              by_cases q9 : mjIs Z106.2.2.1 251 2 = true
              · exact q9
              · rw [if_neg q9] at h; cases h
            rw [if_pos hk111] at h
            cases hq112 : f8_runner Z106.2.2.1 v105 Z106 with
            | none => rw [hq112] at h; cases h
            | some v113 =>
              rw [hq112, mjBp_some] at h
              refine pG_callV (k2 := 8) (As := [.ref Z106.2.2.1, .int v105]) (rest := []) rfl rfl rfl rfl rfl (mjRcv_is hk111 (by decide)) (by decide) (f8_runner_ok hq112) ?_
              rintro r9 M9 ⟨rfl, rfl⟩
              show pG 167 74 [some (.ref 0), some (.int p0), some (.int p1), some (.int v105)] [.ref v113] (mjTo Z106) _
              refine pG_many 1 (pc1 := 75) (L1 := [some (.ref 0), some (.int p0), some (.int p1), some (.int v105)]) (st1 := [.int p0, .ref v113]) (M1 := mjTo Z106) rfl ?_
              have hk115 : mjIs v113 251 7 = true := by
                by_cases q9 : mjIs v113 251 7 = true
                · exact q9
                · rw [if_neg q9] at h; cases h
              rw [if_pos hk115] at h
              cases hq116 : f108_tenthsOf v113 p0 Z106 with
              | none => rw [hq116] at h; cases h
              | some v117 =>
                rw [hq116, mjBp_some] at h
                refine pG_callV (k2 := 108) (As := [.ref v113, .int p0]) (rest := []) rfl rfl rfl rfl rfl (mjRcv_is hk115 (by decide)) (by decide) (f108_tenthsOf_ok hq116) ?_
                rintro r9 M9 ⟨rfl, rfl⟩
                show pG 167 78 [some (.ref 0), some (.int p0), some (.int p1), some (.int v105)] [.int v117] (mjTo Z106) _
                simp only [Option.some.injEq, Prod.mk.injEq] at h
                obtain ⟨rfl, rfl⟩ := h
                exact pG_ret (r := some (.int v117)) rfl ⟨rfl, rfl⟩
          rw [if_neg hs110] at h
          by_cases hs119 : ((p1).toInt - 0).toNat = 2
          · rw [if_pos hs119] at h
            refine pG_tsi (t := 79) (j := 2) (o := 40) rfl hs108 hs119 rfl rfl ?_
            refine pG_many 1 (pc1 := 80) (L1 := [some (.ref 0), some (.int p0), some (.int p1), some (.int v105)]) (st1 := [.ref 0]) (M1 := mjTo Z106) rfl ?_
            refine pG_getR (ci := 11) (f := 5) (b := 188) rfl rfl rfl (by rfl) rfl ?_
            refine pG_many 1 (pc1 := 84) (L1 := [some (.ref 0), some (.int p0), some (.int p1), some (.int v105)]) (st1 := [.ref 0, .ref 188]) (M1 := mjTo Z106) rfl ?_
            refine pG_getR (ci := 11) (f := 2) (b := Z106.2.2.1) rfl rfl rfl (by rfl) rfl ?_
            refine pG_many 1 (pc1 := 88) (L1 := [some (.ref 0), some (.int p0), some (.int p1), some (.int v105)]) (st1 := [.int p0, .ref Z106.2.2.1, .ref 188]) (M1 := mjTo Z106) rfl ?_
            cases hq120 : f110_sumOf Z106.2.2.1 p0 Z106 with
            | none => rw [hq120] at h; cases h
            | some v121 =>
              rw [hq120, mjBp_some] at h
              refine pG_callV (k2 := 110) (As := [.ref 188, .ref Z106.2.2.1, .int p0]) (rest := []) rfl rfl rfl rfl rfl (by rfl) (by decide) (f110_sumOf_ok hq120) ?_
              rintro r9 M9 ⟨rfl, rfl⟩
              show pG 167 91 [some (.ref 0), some (.int p0), some (.int p1), some (.int v105)] [.int v121] (mjTo Z106) _
              simp only [Option.some.injEq, Prod.mk.injEq] at h
              obtain ⟨rfl, rfl⟩ := h
              exact pG_ret (r := some (.int v121)) rfl ⟨rfl, rfl⟩
          rw [if_neg hs119] at h
          cases h
        · rw [if_neg hc107] at h
          refine pG_cmf (t := 38) rfl rfl hc107 ?_
          refine pG_many 1 (pc1 := 37) (L1 := [some (.ref 0), some (.int p0), some (.int p1), some (.int v105)]) (st1 := [.int ((-1))]) (M1 := mjTo Z106) rfl ?_
          simp only [Option.some.injEq, Prod.mk.injEq] at h
          obtain ⟨rfl, rfl⟩ := h
          exact pG_ret (r := some (.int ((-1)))) rfl ⟨rfl, rfl⟩
    · rw [if_neg hc103] at h
      refine pG_cmf (t := 18) rfl rfl hc103 ?_
      refine pG_many 1 (pc1 := 17) (L1 := [some (.ref 0), some (.int p0), some (.int p1), none]) (st1 := [.int ((-1))]) (M1 := mjTo Z) rfl ?_
      simp only [Option.some.injEq, Prod.mk.injEq] at h
      obtain ⟨rfl, rfl⟩ := h
      exact pG_ret (r := some (.int ((-1)))) rfl ⟨rfl, rfl⟩
def f168_leg (p0 : Int32) (p1 : Int32) (p2 : Int32) (Z : mjZt) : Option Int32 :=
  if mjIs Z.2.2.1 251 2 = true then
  mjBp (f19_hasLeg Z.2.2.1 p0 p1 Z) fun v103 =>
  if mjCmp .ne v103 0 = true then
    mjBp (f8_runner Z.2.2.1 p0 Z) fun v107 =>
    if (p2).toInt < 0 ∨ 4 < (p2).toInt then
      some ((-1))
    else if ((p2).toInt - 0).toNat = 0 then
      if mjIs v107 251 7 = true then
      mjBp (f108_tenthsOf v107 p1 Z) fun v113 =>
      some v113
      else none
    else if ((p2).toInt - 0).toNat = 1 then
      if mjIs v107 251 7 = true then
      mjBp (f34_endOf v107 p1 Z) fun v118 =>
      some v118
      else none
    else if ((p2).toInt - 0).toNat = 2 then
      if mjIs v107 251 7 = true then
      mjBp (f32_metresOf v107 p1 Z) fun v123 =>
      some v123
      else none
    else if ((p2).toInt - 0).toNat = 3 then
      mjBp (f40_runInBox Z.2.2.1 v107 p1 (p1 - 1) Z) fun v127 =>
      some v127
    else if ((p2).toInt - 0).toNat = 4 then
      mjBp (f40_runInBox Z.2.2.1 v107 p1 p1 Z) fun v131 =>
      some v131
    else none
  else
    some ((-1))
  else none
theorem f168_leg_ok {p0 : Int32} {p1 : Int32} {p2 : Int32} {Z : mjZt} {v9 : Int32} (h : f168_leg p0 p1 p2 Z = some v9) : pG 168 0 (mjEnt [.ref 0, .int p0, .int p1, .int p2] (mjML 168)) [] (mjTo Z) (fun r M1 => r = some (.int v9) ∧ M1 = mjTo Z) := by
  unfold f168_leg at h
  show pG 168 0 [some (.ref 0), some (.int p0), some (.int p1), some (.int p2), none] [] (mjTo Z) _
  refine pG_many 1 (pc1 := 1) (L1 := [some (.ref 0), some (.int p0), some (.int p1), some (.int p2), none]) (st1 := [.ref 0]) (M1 := mjTo Z) rfl ?_
  refine pG_getR (ci := 11) (f := 2) (b := Z.2.2.1) rfl rfl rfl (by rfl) rfl ?_
  refine pG_many 2 (pc1 := 6) (L1 := [some (.ref 0), some (.int p0), some (.int p1), some (.int p2), none]) (st1 := [.int p1, .int p0, .ref Z.2.2.1]) (M1 := mjTo Z) rfl ?_
  have hk101 : mjIs Z.2.2.1 251 2 = true := by
    by_cases q9 : mjIs Z.2.2.1 251 2 = true
    · exact q9
    · rw [if_neg q9] at h; cases h
  rw [if_pos hk101] at h
  cases hq102 : f19_hasLeg Z.2.2.1 p0 p1 Z with
  | none => rw [hq102] at h; cases h
  | some v103 =>
    rw [hq102, mjBp_some] at h
    refine pG_callV (k2 := 19) (As := [.ref Z.2.2.1, .int p0, .int p1]) (rest := []) rfl rfl rfl rfl rfl (mjRcv_is hk101 (by decide)) (by decide) (f19_hasLeg_ok hq102) ?_
    rintro r9 M9 ⟨rfl, rfl⟩
    show pG 168 9 [some (.ref 0), some (.int p0), some (.int p1), some (.int p2), none] [.int v103] (mjTo Z) _
    by_cases hc105 : mjCmp .ne v103 0 = true
    · rw [if_pos hc105] at h
      refine pG_ift (t := 14) rfl rfl hc105 ?_
      refine pG_many 1 (pc1 := 15) (L1 := [some (.ref 0), some (.int p0), some (.int p1), some (.int p2), none]) (st1 := [.ref 0]) (M1 := mjTo Z) rfl ?_
      refine pG_getR (ci := 11) (f := 2) (b := Z.2.2.1) rfl rfl rfl (by rfl) rfl ?_
      refine pG_many 1 (pc1 := 19) (L1 := [some (.ref 0), some (.int p0), some (.int p1), some (.int p2), none]) (st1 := [.int p0, .ref Z.2.2.1]) (M1 := mjTo Z) rfl ?_
      cases hq106 : f8_runner Z.2.2.1 p0 Z with
      | none => rw [hq106] at h; cases h
      | some v107 =>
        rw [hq106, mjBp_some] at h
        refine pG_callV (k2 := 8) (As := [.ref Z.2.2.1, .int p0]) (rest := []) rfl rfl rfl rfl rfl (mjRcv_is hk101 (by decide)) (by decide) (f8_runner_ok hq106) ?_
        rintro r9 M9 ⟨rfl, rfl⟩
        show pG 168 22 [some (.ref 0), some (.int p0), some (.int p1), some (.int p2), none] [.ref v107] (mjTo Z) _
        refine pG_many 2 (pc1 := 25) (L1 := [some (.ref 0), some (.int p0), some (.int p1), some (.int p2), some (.ref v107)]) (st1 := [.int p2]) (M1 := mjTo Z) rfl ?_
        by_cases hs109 : (p2).toInt < 0 ∨ 4 < (p2).toInt
        · rw [if_pos hs109] at h
          refine pG_tso (t := 107) rfl hs109 rfl ?_
          refine pG_many 1 (pc1 := 108) (L1 := [some (.ref 0), some (.int p0), some (.int p1), some (.int p2), some (.ref v107)]) (st1 := [.int ((-1))]) (M1 := mjTo Z) rfl ?_
          simp only [Option.some.injEq] at h
          subst h
          exact pG_ret (r := some (.int ((-1)))) rfl ⟨rfl, rfl⟩
        rw [if_neg hs109] at h
        by_cases hs110 : ((p2).toInt - 0).toNat = 0
        · rw [if_pos hs110] at h
          refine pG_tsi (t := 60) (j := 0) (o := 35) rfl hs109 hs110 rfl rfl ?_
          refine pG_many 2 (pc1 := 63) (L1 := [some (.ref 0), some (.int p0), some (.int p1), some (.int p2), some (.ref v107)]) (st1 := [.int p1, .ref v107]) (M1 := mjTo Z) rfl ?_
          have hk111 : mjIs v107 251 7 = true := by
            by_cases q9 : mjIs v107 251 7 = true
            · exact q9
            · rw [if_neg q9] at h; cases h
          rw [if_pos hk111] at h
          cases hq112 : f108_tenthsOf v107 p1 Z with
          | none => rw [hq112] at h; cases h
          | some v113 =>
            rw [hq112, mjBp_some] at h
            refine pG_callV (k2 := 108) (As := [.ref v107, .int p1]) (rest := []) rfl rfl rfl rfl rfl (mjRcv_is hk111 (by decide)) (by decide) (f108_tenthsOf_ok hq112) ?_
            rintro r9 M9 ⟨rfl, rfl⟩
            show pG 168 66 [some (.ref 0), some (.int p0), some (.int p1), some (.int p2), some (.ref v107)] [.int v113] (mjTo Z) _
            simp only [Option.some.injEq] at h
            subst h
            exact pG_ret (r := some (.int v113)) rfl ⟨rfl, rfl⟩
        rw [if_neg hs110] at h
        by_cases hs115 : ((p2).toInt - 0).toNat = 1
        · rw [if_pos hs115] at h
          refine pG_tsi (t := 67) (j := 1) (o := 42) rfl hs109 hs115 rfl rfl ?_
          refine pG_many 2 (pc1 := 70) (L1 := [some (.ref 0), some (.int p0), some (.int p1), some (.int p2), some (.ref v107)]) (st1 := [.int p1, .ref v107]) (M1 := mjTo Z) rfl ?_
          have hk116 : mjIs v107 251 7 = true := by
            by_cases q9 : mjIs v107 251 7 = true
            · exact q9
            · rw [if_neg q9] at h; cases h
          rw [if_pos hk116] at h
          cases hq117 : f34_endOf v107 p1 Z with
          | none => rw [hq117] at h; cases h
          | some v118 =>
            rw [hq117, mjBp_some] at h
            refine pG_callV (k2 := 34) (As := [.ref v107, .int p1]) (rest := []) rfl rfl rfl rfl rfl (mjRcv_is hk116 (by decide)) (by decide) (f34_endOf_ok hq117) ?_
            rintro r9 M9 ⟨rfl, rfl⟩
            show pG 168 73 [some (.ref 0), some (.int p0), some (.int p1), some (.int p2), some (.ref v107)] [.int v118] (mjTo Z) _
            simp only [Option.some.injEq] at h
            subst h
            exact pG_ret (r := some (.int v118)) rfl ⟨rfl, rfl⟩
        rw [if_neg hs115] at h
        by_cases hs120 : ((p2).toInt - 0).toNat = 2
        · rw [if_pos hs120] at h
          refine pG_tsi (t := 74) (j := 2) (o := 49) rfl hs109 hs120 rfl rfl ?_
          refine pG_many 2 (pc1 := 77) (L1 := [some (.ref 0), some (.int p0), some (.int p1), some (.int p2), some (.ref v107)]) (st1 := [.int p1, .ref v107]) (M1 := mjTo Z) rfl ?_
          have hk121 : mjIs v107 251 7 = true := by
            by_cases q9 : mjIs v107 251 7 = true
            · exact q9
            · rw [if_neg q9] at h; cases h
          rw [if_pos hk121] at h
          cases hq122 : f32_metresOf v107 p1 Z with
          | none => rw [hq122] at h; cases h
          | some v123 =>
            rw [hq122, mjBp_some] at h
            refine pG_callV (k2 := 32) (As := [.ref v107, .int p1]) (rest := []) rfl rfl rfl rfl rfl (mjRcv_is hk121 (by decide)) (by decide) (f32_metresOf_ok hq122) ?_
            rintro r9 M9 ⟨rfl, rfl⟩
            show pG 168 80 [some (.ref 0), some (.int p0), some (.int p1), some (.int p2), some (.ref v107)] [.int v123] (mjTo Z) _
            simp only [Option.some.injEq] at h
            subst h
            exact pG_ret (r := some (.int v123)) rfl ⟨rfl, rfl⟩
        rw [if_neg hs120] at h
        by_cases hs125 : ((p2).toInt - 0).toNat = 3
        · rw [if_pos hs125] at h
          refine pG_tsi (t := 81) (j := 3) (o := 56) rfl hs109 hs125 rfl rfl ?_
          refine pG_many 1 (pc1 := 82) (L1 := [some (.ref 0), some (.int p0), some (.int p1), some (.int p2), some (.ref v107)]) (st1 := [.ref 0]) (M1 := mjTo Z) rfl ?_
          refine pG_getR (ci := 11) (f := 2) (b := Z.2.2.1) rfl rfl rfl (by rfl) rfl ?_
          refine pG_many 5 (pc1 := 91) (L1 := [some (.ref 0), some (.int p0), some (.int p1), some (.int p2), some (.ref v107)]) (st1 := [.int (p1 - 1), .int p1, .ref v107, .ref Z.2.2.1]) (M1 := mjTo Z) rfl ?_
          cases hq126 : f40_runInBox Z.2.2.1 v107 p1 (p1 - 1) Z with
          | none => rw [hq126] at h; cases h
          | some v127 =>
            rw [hq126, mjBp_some] at h
            refine pG_callV (k2 := 40) (As := [.ref Z.2.2.1, .ref v107, .int p1, .int (p1 - 1)]) (rest := []) rfl rfl rfl rfl rfl (mjRcv_is hk101 (by decide)) (by decide) (f40_runInBox_ok hq126) ?_
            rintro r9 M9 ⟨rfl, rfl⟩
            show pG 168 94 [some (.ref 0), some (.int p0), some (.int p1), some (.int p2), some (.ref v107)] [.int v127] (mjTo Z) _
            simp only [Option.some.injEq] at h
            subst h
            exact pG_ret (r := some (.int v127)) rfl ⟨rfl, rfl⟩
        rw [if_neg hs125] at h
        by_cases hs129 : ((p2).toInt - 0).toNat = 4
        · rw [if_pos hs129] at h
          refine pG_tsi (t := 95) (j := 4) (o := 70) rfl hs109 hs129 rfl rfl ?_
          refine pG_many 1 (pc1 := 96) (L1 := [some (.ref 0), some (.int p0), some (.int p1), some (.int p2), some (.ref v107)]) (st1 := [.ref 0]) (M1 := mjTo Z) rfl ?_
          refine pG_getR (ci := 11) (f := 2) (b := Z.2.2.1) rfl rfl rfl (by rfl) rfl ?_
          refine pG_many 3 (pc1 := 103) (L1 := [some (.ref 0), some (.int p0), some (.int p1), some (.int p2), some (.ref v107)]) (st1 := [.int p1, .int p1, .ref v107, .ref Z.2.2.1]) (M1 := mjTo Z) rfl ?_
          cases hq130 : f40_runInBox Z.2.2.1 v107 p1 p1 Z with
          | none => rw [hq130] at h; cases h
          | some v131 =>
            rw [hq130, mjBp_some] at h
            refine pG_callV (k2 := 40) (As := [.ref Z.2.2.1, .ref v107, .int p1, .int p1]) (rest := []) rfl rfl rfl rfl rfl (mjRcv_is hk101 (by decide)) (by decide) (f40_runInBox_ok hq130) ?_
            rintro r9 M9 ⟨rfl, rfl⟩
            show pG 168 106 [some (.ref 0), some (.int p0), some (.int p1), some (.int p2), some (.ref v107)] [.int v131] (mjTo Z) _
            simp only [Option.some.injEq] at h
            subst h
            exact pG_ret (r := some (.int v131)) rfl ⟨rfl, rfl⟩
        rw [if_neg hs129] at h
        cases h
    · rw [if_neg hc105] at h
      refine pG_iff (t := 14) rfl rfl hc105 ?_
      refine pG_many 1 (pc1 := 13) (L1 := [some (.ref 0), some (.int p0), some (.int p1), some (.int p2), none]) (st1 := [.int ((-1))]) (M1 := mjTo Z) rfl ?_
      simp only [Option.some.injEq] at h
      subst h
      exact pG_ret (r := some (.int ((-1)))) rfl ⟨rfl, rfl⟩
def f169_inBox (p0 : Int32) (p1 : Int32) (Z : mjZt) : Option Int32 :=
  if mjIs Z.2.2.1 251 2 = true then
  mjBp (f7_hasTeam Z.2.2.1 p0 Z) fun v103 =>
  if mjCmp .eq v103 0 = true then
    some ((-1))
  else
    mjBp (f158_isTenth p1 Z) fun v107 =>
    if mjCmp .ne v107 0 = true then
      mjBp (f8_runner Z.2.2.1 p0 Z) fun v111 =>
      if mjIs v111 251 7 = true then
      mjBp (f73_whereAt v111 p1 Z) fun v115 =>
      mjBp (f38_isInABox Z.2.2.1 v115 Z) fun v118 =>
      if mjCmp .eq v118 0 = true then
        some 0
      else
        some 1
      else none
    else
      some ((-1))
  else none
theorem f169_inBox_ok {p0 : Int32} {p1 : Int32} {Z : mjZt} {v9 : Int32} (h : f169_inBox p0 p1 Z = some v9) : pG 169 0 (mjEnt [.ref 0, .int p0, .int p1] (mjML 169)) [] (mjTo Z) (fun r M1 => r = some (.int v9) ∧ M1 = mjTo Z) := by
  unfold f169_inBox at h
  show pG 169 0 [some (.ref 0), some (.int p0), some (.int p1)] [] (mjTo Z) _
  refine pG_many 1 (pc1 := 1) (L1 := [some (.ref 0), some (.int p0), some (.int p1)]) (st1 := [.ref 0]) (M1 := mjTo Z) rfl ?_
  refine pG_getR (ci := 11) (f := 2) (b := Z.2.2.1) rfl rfl rfl (by rfl) rfl ?_
  refine pG_many 1 (pc1 := 5) (L1 := [some (.ref 0), some (.int p0), some (.int p1)]) (st1 := [.int p0, .ref Z.2.2.1]) (M1 := mjTo Z) rfl ?_
  have hk101 : mjIs Z.2.2.1 251 2 = true := by
    by_cases q9 : mjIs Z.2.2.1 251 2 = true
    · exact q9
    · rw [if_neg q9] at h; cases h
  rw [if_pos hk101] at h
  cases hq102 : f7_hasTeam Z.2.2.1 p0 Z with
  | none => rw [hq102] at h; cases h
  | some v103 =>
    rw [hq102, mjBp_some] at h
    refine pG_callV (k2 := 7) (As := [.ref Z.2.2.1, .int p0]) (rest := []) rfl rfl rfl rfl rfl (mjRcv_is hk101 (by decide)) (by decide) (f7_hasTeam_ok hq102) ?_
    rintro r9 M9 ⟨rfl, rfl⟩
    show pG 169 8 [some (.ref 0), some (.int p0), some (.int p1)] [.int v103] (mjTo Z) _
    by_cases hc105 : mjCmp .eq v103 0 = true
    · rw [if_pos hc105] at h
      refine pG_ift (t := 18) rfl rfl hc105 ?_
      refine pG_many 1 (pc1 := 19) (L1 := [some (.ref 0), some (.int p0), some (.int p1)]) (st1 := [.int ((-1))]) (M1 := mjTo Z) rfl ?_
      simp only [Option.some.injEq] at h
      subst h
      exact pG_ret (r := some (.int ((-1)))) rfl ⟨rfl, rfl⟩
    · rw [if_neg hc105] at h
      refine pG_iff (t := 18) rfl rfl hc105 ?_
      refine pG_many 1 (pc1 := 12) (L1 := [some (.ref 0), some (.int p0), some (.int p1)]) (st1 := [.int p1]) (M1 := mjTo Z) rfl ?_
      cases hq106 : f158_isTenth p1 Z with
      | none => rw [hq106] at h; cases h
      | some v107 =>
        rw [hq106, mjBp_some] at h
        refine pG_call (k2 := 158) (As := [.int p1]) (rest := []) rfl (by decide) (f158_isTenth_ok hq106) ?_
        rintro r9 M9 ⟨rfl, rfl⟩
        show pG 169 15 [some (.ref 0), some (.int p0), some (.int p1)] [.int v107] (mjTo Z) _
        by_cases hc109 : mjCmp .ne v107 0 = true
        · rw [if_pos hc109] at h
          refine pG_ift (t := 20) rfl rfl hc109 ?_
          refine pG_many 1 (pc1 := 21) (L1 := [some (.ref 0), some (.int p0), some (.int p1)]) (st1 := [.ref 0]) (M1 := mjTo Z) rfl ?_
          refine pG_getR (ci := 11) (f := 2) (b := Z.2.2.1) rfl rfl rfl (by rfl) rfl ?_
          refine pG_many 1 (pc1 := 25) (L1 := [some (.ref 0), some (.int p0), some (.int p1)]) (st1 := [.ref 0, .ref Z.2.2.1]) (M1 := mjTo Z) rfl ?_
          refine pG_getR (ci := 11) (f := 2) (b := Z.2.2.1) rfl rfl rfl (by rfl) rfl ?_
          refine pG_many 1 (pc1 := 29) (L1 := [some (.ref 0), some (.int p0), some (.int p1)]) (st1 := [.int p0, .ref Z.2.2.1, .ref Z.2.2.1]) (M1 := mjTo Z) rfl ?_
          cases hq110 : f8_runner Z.2.2.1 p0 Z with
          | none => rw [hq110] at h; cases h
          | some v111 =>
            rw [hq110, mjBp_some] at h
            refine pG_callV (k2 := 8) (As := [.ref Z.2.2.1, .int p0]) (rest := [.ref Z.2.2.1]) rfl rfl rfl rfl rfl (mjRcv_is hk101 (by decide)) (by decide) (f8_runner_ok hq110) ?_
            rintro r9 M9 ⟨rfl, rfl⟩
            show pG 169 32 [some (.ref 0), some (.int p0), some (.int p1)] [.ref v111, .ref Z.2.2.1] (mjTo Z) _
            refine pG_many 1 (pc1 := 33) (L1 := [some (.ref 0), some (.int p0), some (.int p1)]) (st1 := [.int p1, .ref v111, .ref Z.2.2.1]) (M1 := mjTo Z) rfl ?_
            have hk113 : mjIs v111 251 7 = true := by
              by_cases q9 : mjIs v111 251 7 = true
              · exact q9
              · rw [if_neg q9] at h; cases h
            rw [if_pos hk113] at h
            cases hq114 : f73_whereAt v111 p1 Z with
            | none => rw [hq114] at h; cases h
            | some v115 =>
              rw [hq114, mjBp_some] at h
              refine pG_callV (k2 := 73) (As := [.ref v111, .int p1]) (rest := [.ref Z.2.2.1]) rfl rfl rfl rfl rfl (mjRcv_is hk113 (by decide)) (by decide) (f73_whereAt_ok hq114) ?_
              rintro r9 M9 ⟨rfl, rfl⟩
              show pG 169 36 [some (.ref 0), some (.int p0), some (.int p1)] [.int v115, .ref Z.2.2.1] (mjTo Z) _
              cases hq117 : f38_isInABox Z.2.2.1 v115 Z with
              | none => rw [hq117] at h; cases h
              | some v118 =>
                rw [hq117, mjBp_some] at h
                refine pG_callV (k2 := 38) (As := [.ref Z.2.2.1, .int v115]) (rest := []) rfl rfl rfl rfl rfl (mjRcv_is hk101 (by decide)) (by decide) (f38_isInABox_ok hq117) ?_
                rintro r9 M9 ⟨rfl, rfl⟩
                show pG 169 39 [some (.ref 0), some (.int p0), some (.int p1)] [.int v118] (mjTo Z) _
                by_cases hc120 : mjCmp .eq v118 0 = true
                · rw [if_pos hc120] at h
                  refine pG_ift (t := 46) rfl rfl hc120 ?_
                  refine pG_many 1 (pc1 := 47) (L1 := [some (.ref 0), some (.int p0), some (.int p1)]) (st1 := [.int 0]) (M1 := mjTo Z) rfl ?_
                  simp only [Option.some.injEq] at h
                  subst h
                  exact pG_ret (r := some (.int 0)) rfl ⟨rfl, rfl⟩
                · rw [if_neg hc120] at h
                  refine pG_iff (t := 46) rfl rfl hc120 ?_
                  refine pG_many 2 (pc1 := 47) (L1 := [some (.ref 0), some (.int p0), some (.int p1)]) (st1 := [.int 1]) (M1 := mjTo Z) rfl ?_
                  simp only [Option.some.injEq] at h
                  subst h
                  exact pG_ret (r := some (.int 1)) rfl ⟨rfl, rfl⟩
        · rw [if_neg hc109] at h
          refine pG_iff (t := 20) rfl rfl hc109 ?_
          refine pG_many 1 (pc1 := 19) (L1 := [some (.ref 0), some (.int p0), some (.int p1)]) (st1 := [.int ((-1))]) (M1 := mjTo Z) rfl ?_
          simp only [Option.some.injEq] at h
          subst h
          exact pG_ret (r := some (.int ((-1)))) rfl ⟨rfl, rfl⟩
def f170_act (p0 : Int32) (p1 : Int32) (Z : mjZt) : Option Int32 :=
  if mjIs Z.2.2.1 251 2 = true then
  mjBp (f17_hasAct Z.2.2.1 p0 Z) fun v103 =>
  if mjCmp .ne v103 0 = true then
    mjBp (f6_deed Z.2.2.1 p0 Z) fun v107 =>
    if (p1).toInt < 0 ∨ 5 < (p1).toInt then
      some ((-2000000))
    else if ((p1).toInt - 0).toNat = 0 then
      if mjIs v107 251 0 = true then
      some (Z.1 v107 0)
      else none
    else if ((p1).toInt - 0).toNat = 1 then
      if mjIs v107 251 0 = true then
      some (Z.1 v107 1)
      else none
    else if ((p1).toInt - 0).toNat = 2 then
      if mjIs v107 251 0 = true then
      some (Z.1 v107 2)
      else none
    else if ((p1).toInt - 0).toNat = 3 then
      if mjIs v107 251 0 = true then
      some (Z.1 v107 3)
      else none
    else if ((p1).toInt - 0).toNat = 4 then
      if mjIs v107 251 0 = true then
      some (Z.1 v107 4)
      else none
    else if ((p1).toInt - 0).toNat = 5 then
      if mjCmp .ne (lg_cmp (((Z.2.1 Z.2.2.1 11) >>> (Int32.toInt64 p0 &&& 63)) &&& 1) 1) 0 = true then
        some 0
      else
        some 1
    else none
  else
    some ((-2000000))
  else none
theorem f170_act_ok {p0 : Int32} {p1 : Int32} {Z : mjZt} {v9 : Int32} (h : f170_act p0 p1 Z = some v9) : pG 170 0 (mjEnt [.ref 0, .int p0, .int p1] (mjML 170)) [] (mjTo Z) (fun r M1 => r = some (.int v9) ∧ M1 = mjTo Z) := by
  unfold f170_act at h
  show pG 170 0 [some (.ref 0), some (.int p0), some (.int p1), none] [] (mjTo Z) _
  refine pG_many 1 (pc1 := 1) (L1 := [some (.ref 0), some (.int p0), some (.int p1), none]) (st1 := [.ref 0]) (M1 := mjTo Z) rfl ?_
  refine pG_getR (ci := 11) (f := 2) (b := Z.2.2.1) rfl rfl rfl (by rfl) rfl ?_
  refine pG_many 1 (pc1 := 5) (L1 := [some (.ref 0), some (.int p0), some (.int p1), none]) (st1 := [.int p0, .ref Z.2.2.1]) (M1 := mjTo Z) rfl ?_
  have hk101 : mjIs Z.2.2.1 251 2 = true := by
    by_cases q9 : mjIs Z.2.2.1 251 2 = true
    · exact q9
    · rw [if_neg q9] at h; cases h
  rw [if_pos hk101] at h
  cases hq102 : f17_hasAct Z.2.2.1 p0 Z with
  | none => rw [hq102] at h; cases h
  | some v103 =>
    rw [hq102, mjBp_some] at h
    refine pG_callV (k2 := 17) (As := [.ref Z.2.2.1, .int p0]) (rest := []) rfl rfl rfl rfl rfl (mjRcv_is hk101 (by decide)) (by decide) (f17_hasAct_ok hq102) ?_
    rintro r9 M9 ⟨rfl, rfl⟩
    show pG 170 8 [some (.ref 0), some (.int p0), some (.int p1), none] [.int v103] (mjTo Z) _
    by_cases hc105 : mjCmp .ne v103 0 = true
    · rw [if_pos hc105] at h
      refine pG_ift (t := 14) rfl rfl hc105 ?_
      refine pG_many 1 (pc1 := 15) (L1 := [some (.ref 0), some (.int p0), some (.int p1), none]) (st1 := [.ref 0]) (M1 := mjTo Z) rfl ?_
      refine pG_getR (ci := 11) (f := 2) (b := Z.2.2.1) rfl rfl rfl (by rfl) rfl ?_
      refine pG_many 1 (pc1 := 19) (L1 := [some (.ref 0), some (.int p0), some (.int p1), none]) (st1 := [.int p0, .ref Z.2.2.1]) (M1 := mjTo Z) rfl ?_
      cases hq106 : f6_deed Z.2.2.1 p0 Z with
      | none => rw [hq106] at h; cases h
      | some v107 =>
        rw [hq106, mjBp_some] at h
        refine pG_callV (k2 := 6) (As := [.ref Z.2.2.1, .int p0]) (rest := []) rfl rfl rfl rfl rfl (mjRcv_is hk101 (by decide)) (by decide) (f6_deed_ok hq106) ?_
        rintro r9 M9 ⟨rfl, rfl⟩
        show pG 170 22 [some (.ref 0), some (.int p0), some (.int p1), none] [.ref v107] (mjTo Z) _
        refine pG_many 2 (pc1 := 24) (L1 := [some (.ref 0), some (.int p0), some (.int p1), some (.ref v107)]) (st1 := [.int p1]) (M1 := mjTo Z) rfl ?_
        by_cases hs109 : (p1).toInt < 0 ∨ 5 < (p1).toInt
        · rw [if_pos hs109] at h
          refine pG_tso (t := 111) rfl hs109 rfl ?_
          refine pG_many 1 (pc1 := 113) (L1 := [some (.ref 0), some (.int p0), some (.int p1), some (.ref v107)]) (st1 := [.int ((-2000000))]) (M1 := mjTo Z) rfl ?_
          simp only [Option.some.injEq] at h
          subst h
          exact pG_ret (r := some (.int ((-2000000)))) rfl ⟨rfl, rfl⟩
        rw [if_neg hs109] at h
        by_cases hs110 : ((p1).toInt - 0).toNat = 0
        · rw [if_pos hs110] at h
          refine pG_tsi (t := 64) (j := 0) (o := 40) rfl hs109 hs110 rfl rfl ?_
          refine pG_many 1 (pc1 := 65) (L1 := [some (.ref 0), some (.int p0), some (.int p1), some (.ref v107)]) (st1 := [.ref v107]) (M1 := mjTo Z) rfl ?_
          have hk111 : mjIs v107 251 0 = true := by
            by_cases q9 : mjIs v107 251 0 = true
            · exact q9
            · rw [if_neg q9] at h; cases h
          rw [if_pos hk111] at h
          refine pG_getI (ci := 0) (f := 0) rfl rfl (Or.inl rfl) hk111 ?_
          simp only [Option.some.injEq] at h
          subst h
          exact pG_ret (r := some (.int (Z.1 v107 0))) rfl ⟨rfl, rfl⟩
        rw [if_neg hs110] at h
        by_cases hs112 : ((p1).toInt - 0).toNat = 1
        · rw [if_pos hs112] at h
          refine pG_tsi (t := 69) (j := 1) (o := 45) rfl hs109 hs112 rfl rfl ?_
          refine pG_many 1 (pc1 := 70) (L1 := [some (.ref 0), some (.int p0), some (.int p1), some (.ref v107)]) (st1 := [.ref v107]) (M1 := mjTo Z) rfl ?_
          have hk113 : mjIs v107 251 0 = true := by
            by_cases q9 : mjIs v107 251 0 = true
            · exact q9
            · rw [if_neg q9] at h; cases h
          rw [if_pos hk113] at h
          refine pG_getI (ci := 0) (f := 1) rfl rfl (Or.inl rfl) hk113 ?_
          simp only [Option.some.injEq] at h
          subst h
          exact pG_ret (r := some (.int (Z.1 v107 1))) rfl ⟨rfl, rfl⟩
        rw [if_neg hs112] at h
        by_cases hs114 : ((p1).toInt - 0).toNat = 2
        · rw [if_pos hs114] at h
          refine pG_tsi (t := 74) (j := 2) (o := 50) rfl hs109 hs114 rfl rfl ?_
          refine pG_many 1 (pc1 := 75) (L1 := [some (.ref 0), some (.int p0), some (.int p1), some (.ref v107)]) (st1 := [.ref v107]) (M1 := mjTo Z) rfl ?_
          have hk115 : mjIs v107 251 0 = true := by
            by_cases q9 : mjIs v107 251 0 = true
            · exact q9
            · rw [if_neg q9] at h; cases h
          rw [if_pos hk115] at h
          refine pG_getI (ci := 0) (f := 2) rfl rfl (Or.inl rfl) hk115 ?_
          simp only [Option.some.injEq] at h
          subst h
          exact pG_ret (r := some (.int (Z.1 v107 2))) rfl ⟨rfl, rfl⟩
        rw [if_neg hs114] at h
        by_cases hs116 : ((p1).toInt - 0).toNat = 3
        · rw [if_pos hs116] at h
          refine pG_tsi (t := 79) (j := 3) (o := 55) rfl hs109 hs116 rfl rfl ?_
          refine pG_many 1 (pc1 := 80) (L1 := [some (.ref 0), some (.int p0), some (.int p1), some (.ref v107)]) (st1 := [.ref v107]) (M1 := mjTo Z) rfl ?_
          have hk117 : mjIs v107 251 0 = true := by
            by_cases q9 : mjIs v107 251 0 = true
            · exact q9
            · rw [if_neg q9] at h; cases h
          rw [if_pos hk117] at h
          refine pG_getI (ci := 0) (f := 3) rfl rfl (Or.inl rfl) hk117 ?_
          simp only [Option.some.injEq] at h
          subst h
          exact pG_ret (r := some (.int (Z.1 v107 3))) rfl ⟨rfl, rfl⟩
        rw [if_neg hs116] at h
        by_cases hs118 : ((p1).toInt - 0).toNat = 4
        · rw [if_pos hs118] at h
          refine pG_tsi (t := 84) (j := 4) (o := 60) rfl hs109 hs118 rfl rfl ?_
          refine pG_many 1 (pc1 := 85) (L1 := [some (.ref 0), some (.int p0), some (.int p1), some (.ref v107)]) (st1 := [.ref v107]) (M1 := mjTo Z) rfl ?_
          have hk119 : mjIs v107 251 0 = true := by
            by_cases q9 : mjIs v107 251 0 = true
            · exact q9
            · rw [if_neg q9] at h; cases h
          rw [if_pos hk119] at h
          refine pG_getI (ci := 0) (f := 4) rfl rfl (Or.inl rfl) hk119 ?_
          simp only [Option.some.injEq] at h
          subst h
          exact pG_ret (r := some (.int (Z.1 v107 4))) rfl ⟨rfl, rfl⟩
        rw [if_neg hs118] at h
        by_cases hs120 : ((p1).toInt - 0).toNat = 5
        · rw [if_pos hs120] at h
          refine pG_tsi (t := 89) (j := 5) (o := 65) rfl hs109 hs120 rfl rfl ?_
          refine pG_many 1 (pc1 := 90) (L1 := [some (.ref 0), some (.int p0), some (.int p1), some (.ref v107)]) (st1 := [.ref 0]) (M1 := mjTo Z) rfl ?_
          refine pG_getR (ci := 11) (f := 2) (b := Z.2.2.1) rfl rfl rfl (by rfl) rfl ?_
          refine pG_getL (ci := 2) (f := 11) rfl rfl rfl hk101 ?_
          refine pG_many 6 (pc1 := 102) (L1 := [some (.ref 0), some (.int p0), some (.int p1), some (.ref v107)]) (st1 := [.int (lg_cmp (((Z.2.1 Z.2.2.1 11) >>> (Int32.toInt64 p0 &&& 63)) &&& 1) 1)]) (M1 := mjTo Z) rfl ?_
          by_cases hc121 : mjCmp .ne (lg_cmp (((Z.2.1 Z.2.2.1 11) >>> (Int32.toInt64 p0 &&& 63)) &&& 1) 1) 0 = true
          · rw [if_pos hc121] at h
            refine pG_ift (t := 109) rfl rfl hc121 ?_
            refine pG_many 1 (pc1 := 110) (L1 := [some (.ref 0), some (.int p0), some (.int p1), some (.ref v107)]) (st1 := [.int 0]) (M1 := mjTo Z) rfl ?_
            simp only [Option.some.injEq] at h
            subst h
            exact pG_ret (r := some (.int 0)) rfl ⟨rfl, rfl⟩
          · rw [if_neg hc121] at h
            refine pG_iff (t := 109) rfl rfl hc121 ?_
            refine pG_many 2 (pc1 := 110) (L1 := [some (.ref 0), some (.int p0), some (.int p1), some (.ref v107)]) (st1 := [.int 1]) (M1 := mjTo Z) rfl ?_
            simp only [Option.some.injEq] at h
            subst h
            exact pG_ret (r := some (.int 1)) rfl ⟨rfl, rfl⟩
        rw [if_neg hs120] at h
        cases h
    · rw [if_neg hc105] at h
      refine pG_iff (t := 14) rfl rfl hc105 ?_
      refine pG_many 1 (pc1 := 13) (L1 := [some (.ref 0), some (.int p0), some (.int p1), none]) (st1 := [.int ((-2000000))]) (M1 := mjTo Z) rfl ?_
      simp only [Option.some.injEq] at h
      subst h
      exact pG_ret (r := some (.int ((-2000000)))) rfl ⟨rfl, rfl⟩
def f171_fact (p0 : Int32) (p1 : Int32) (Z : mjZt) : Option (Int32 × mjZt) :=
  if mjIs Z.2.2.1 251 2 = true then
  mjBp (f17_hasAct Z.2.2.1 p0 Z) fun v103 =>
  if mjCmp .eq v103 0 = true then
    some ((-2000000), Z)
  else
    if mjCmp .lt p1 0 = true then
      some ((-2000000), Z)
    else
      if mjCmp .lt p1 11 = true then
        mjBd (f75_lookAt Z.2.2.1 p0 Z) fun _ Z110 =>
        mjBp (f71_factNow p1 Z110) fun v112 =>
        some (v112, Z110)
      else
        some ((-2000000), Z)
  else none
theorem f171_fact_ok {p0 : Int32} {p1 : Int32} {Z : mjZt} {v9 : Int32} {Z9 : mjZt} (h : f171_fact p0 p1 Z = some (v9, Z9)) : pG 171 0 (mjEnt [.ref 0, .int p0, .int p1] (mjML 171)) [] (mjTo Z) (fun r M1 => r = some (.int v9) ∧ M1 = mjTo Z9) := by
  unfold f171_fact at h
  show pG 171 0 [some (.ref 0), some (.int p0), some (.int p1)] [] (mjTo Z) _
  refine pG_many 1 (pc1 := 1) (L1 := [some (.ref 0), some (.int p0), some (.int p1)]) (st1 := [.ref 0]) (M1 := mjTo Z) rfl ?_
  refine pG_getR (ci := 11) (f := 2) (b := Z.2.2.1) rfl rfl rfl (by rfl) rfl ?_
  refine pG_many 1 (pc1 := 5) (L1 := [some (.ref 0), some (.int p0), some (.int p1)]) (st1 := [.int p0, .ref Z.2.2.1]) (M1 := mjTo Z) rfl ?_
  have hk101 : mjIs Z.2.2.1 251 2 = true := by
    by_cases q9 : mjIs Z.2.2.1 251 2 = true
    · exact q9
    · rw [if_neg q9] at h; cases h
  rw [if_pos hk101] at h
  cases hq102 : f17_hasAct Z.2.2.1 p0 Z with
  | none => rw [hq102] at h; cases h
  | some v103 =>
    rw [hq102, mjBp_some] at h
    refine pG_callV (k2 := 17) (As := [.ref Z.2.2.1, .int p0]) (rest := []) rfl rfl rfl rfl rfl (mjRcv_is hk101 (by decide)) (by decide) (f17_hasAct_ok hq102) ?_
    rintro r9 M9 ⟨rfl, rfl⟩
    show pG 171 8 [some (.ref 0), some (.int p0), some (.int p1)] [.int v103] (mjTo Z) _
    by_cases hc105 : mjCmp .eq v103 0 = true
    · rw [if_pos hc105] at h
      refine pG_ift (t := 21) rfl rfl hc105 ?_
      refine pG_many 1 (pc1 := 23) (L1 := [some (.ref 0), some (.int p0), some (.int p1)]) (st1 := [.int ((-2000000))]) (M1 := mjTo Z) rfl ?_
      simp only [Option.some.injEq, Prod.mk.injEq] at h
      obtain ⟨rfl, rfl⟩ := h
      exact pG_ret (r := some (.int ((-2000000)))) rfl ⟨rfl, rfl⟩
    · rw [if_neg hc105] at h
      refine pG_iff (t := 21) rfl rfl hc105 ?_
      refine pG_many 1 (pc1 := 12) (L1 := [some (.ref 0), some (.int p0), some (.int p1)]) (st1 := [.int p1]) (M1 := mjTo Z) rfl ?_
      by_cases hc106 : mjCmp .lt p1 0 = true
      · rw [if_pos hc106] at h
        refine pG_ift (t := 21) rfl rfl hc106 ?_
        refine pG_many 1 (pc1 := 23) (L1 := [some (.ref 0), some (.int p0), some (.int p1)]) (st1 := [.int ((-2000000))]) (M1 := mjTo Z) rfl ?_
        simp only [Option.some.injEq, Prod.mk.injEq] at h
        obtain ⟨rfl, rfl⟩ := h
        exact pG_ret (r := some (.int ((-2000000)))) rfl ⟨rfl, rfl⟩
      · rw [if_neg hc106] at h
        refine pG_iff (t := 21) rfl rfl hc106 ?_
        refine pG_many 2 (pc1 := 18) (L1 := [some (.ref 0), some (.int p0), some (.int p1)]) (st1 := [.int 11, .int p1]) (M1 := mjTo Z) rfl ?_
        by_cases hc107 : mjCmp .lt p1 11 = true
        · rw [if_pos hc107] at h
          refine pG_cmt (t := 24) rfl rfl hc107 ?_
          refine pG_many 1 (pc1 := 25) (L1 := [some (.ref 0), some (.int p0), some (.int p1)]) (st1 := [.ref 0]) (M1 := mjTo Z) rfl ?_
          refine pG_getR (ci := 11) (f := 6) (b := 190) rfl rfl rfl (by rfl) rfl ?_
          refine pG_many 1 (pc1 := 29) (L1 := [some (.ref 0), some (.int p0), some (.int p1)]) (st1 := [.ref 0, .ref 190]) (M1 := mjTo Z) rfl ?_
          refine pG_getR (ci := 11) (f := 2) (b := Z.2.2.1) rfl rfl rfl (by rfl) rfl ?_
          refine pG_many 1 (pc1 := 33) (L1 := [some (.ref 0), some (.int p0), some (.int p1)]) (st1 := [.int p0, .ref Z.2.2.1, .ref 190]) (M1 := mjTo Z) rfl ?_
          cases hq108 : f75_lookAt Z.2.2.1 p0 Z with
          | none => rw [hq108] at h; cases h
          | some w =>
            obtain ⟨v109, Z110⟩ := w
            rw [hq108, mjBd_some] at h
            refine pG_callV (k2 := 75) (As := [.ref 190, .ref Z.2.2.1, .int p0]) (rest := []) rfl rfl rfl rfl rfl (by rfl) (by decide) (f75_lookAt_ok hq108) ?_
            rintro r9 M9 ⟨rfl, rfl⟩
            show pG 171 36 [some (.ref 0), some (.int p0), some (.int p1)] [] (mjTo Z110) _
            refine pG_many 1 (pc1 := 37) (L1 := [some (.ref 0), some (.int p0), some (.int p1)]) (st1 := [.ref 0]) (M1 := mjTo Z110) rfl ?_
            refine pG_getR (ci := 11) (f := 6) (b := 190) rfl rfl rfl (by rfl) rfl ?_
            refine pG_many 1 (pc1 := 41) (L1 := [some (.ref 0), some (.int p0), some (.int p1)]) (st1 := [.int p1, .ref 190]) (M1 := mjTo Z110) rfl ?_
            cases hq111 : f71_factNow p1 Z110 with
            | none => rw [hq111] at h; cases h
            | some v112 =>
              rw [hq111, mjBp_some] at h
              refine pG_callV (k2 := 71) (As := [.ref 190, .int p1]) (rest := []) rfl rfl rfl rfl rfl (by rfl) (by decide) (f71_factNow_ok hq111) ?_
              rintro r9 M9 ⟨rfl, rfl⟩
              show pG 171 44 [some (.ref 0), some (.int p0), some (.int p1)] [.int v112] (mjTo Z110) _
              simp only [Option.some.injEq, Prod.mk.injEq] at h
              obtain ⟨rfl, rfl⟩ := h
              exact pG_ret (r := some (.int v112)) rfl ⟨rfl, rfl⟩
        · rw [if_neg hc107] at h
          refine pG_cmf (t := 24) rfl rfl hc107 ?_
          refine pG_many 1 (pc1 := 23) (L1 := [some (.ref 0), some (.int p0), some (.int p1)]) (st1 := [.int ((-2000000))]) (M1 := mjTo Z) rfl ?_
          simp only [Option.some.injEq, Prod.mk.injEq] at h
          obtain ⟨rfl, rfl⟩ := h
          exact pG_ret (r := some (.int ((-2000000)))) rfl ⟨rfl, rfl⟩
def f172_rule (p0 : Int32) (p1 : Int32) (Z : mjZt) : Option Int32 :=
  if mjIs Z.2.2.1 251 2 = true then
  mjBp (f16_hasRule Z.2.2.1 p0 Z) fun v103 =>
  if mjCmp .ne v103 0 = true then
    if (p1).toInt < 0 ∨ 2 < (p1).toInt then
      some ((-2000000))
    else if ((p1).toInt - 0).toNat = 0 then
      mjBp (f20_kindOfRule Z.2.2.1 p0 Z) fun v109 =>
      some v109
    else if ((p1).toInt - 0).toNat = 1 then
      if mjIs (Z.2.2.1 + 1) 251 8 = true then
      mjBp (f129_comparisonsOf (Z.2.2.1 + 1) p0 0 Z) fun v114 =>
      some v114
      else none
    else if ((p1).toInt - 0).toNat = 2 then
      if mjIs (Z.2.2.1 + 1) 251 8 = true then
      mjBp (f92_isTold (Z.2.2.1 + 1) p0 1 Z) fun v119 =>
      if mjCmp .eq v119 0 = true then
        some ((-1))
      else
        mjBp (f129_comparisonsOf (Z.2.2.1 + 1) p0 1 Z) fun v123 =>
        some v123
      else none
    else none
  else
    some ((-2000000))
  else none
theorem f172_rule_ok {p0 : Int32} {p1 : Int32} {Z : mjZt} {v9 : Int32} (h : f172_rule p0 p1 Z = some v9) : pG 172 0 (mjEnt [.ref 0, .int p0, .int p1] (mjML 172)) [] (mjTo Z) (fun r M1 => r = some (.int v9) ∧ M1 = mjTo Z) := by
  unfold f172_rule at h
  show pG 172 0 [some (.ref 0), some (.int p0), some (.int p1)] [] (mjTo Z) _
  refine pG_many 1 (pc1 := 1) (L1 := [some (.ref 0), some (.int p0), some (.int p1)]) (st1 := [.ref 0]) (M1 := mjTo Z) rfl ?_
  refine pG_getR (ci := 11) (f := 2) (b := Z.2.2.1) rfl rfl rfl (by rfl) rfl ?_
  refine pG_many 1 (pc1 := 5) (L1 := [some (.ref 0), some (.int p0), some (.int p1)]) (st1 := [.int p0, .ref Z.2.2.1]) (M1 := mjTo Z) rfl ?_
  have hk101 : mjIs Z.2.2.1 251 2 = true := by
    by_cases q9 : mjIs Z.2.2.1 251 2 = true
    · exact q9
    · rw [if_neg q9] at h; cases h
  rw [if_pos hk101] at h
  cases hq102 : f16_hasRule Z.2.2.1 p0 Z with
  | none => rw [hq102] at h; cases h
  | some v103 =>
    rw [hq102, mjBp_some] at h
    refine pG_callV (k2 := 16) (As := [.ref Z.2.2.1, .int p0]) (rest := []) rfl rfl rfl rfl rfl (mjRcv_is hk101 (by decide)) (by decide) (f16_hasRule_ok hq102) ?_
    rintro r9 M9 ⟨rfl, rfl⟩
    show pG 172 8 [some (.ref 0), some (.int p0), some (.int p1)] [.int v103] (mjTo Z) _
    by_cases hc105 : mjCmp .ne v103 0 = true
    · rw [if_pos hc105] at h
      refine pG_ift (t := 14) rfl rfl hc105 ?_
      refine pG_many 1 (pc1 := 15) (L1 := [some (.ref 0), some (.int p0), some (.int p1)]) (st1 := [.int p1]) (M1 := mjTo Z) rfl ?_
      by_cases hs106 : (p1).toInt < 0 ∨ 2 < (p1).toInt
      · rw [if_pos hs106] at h
        refine pG_tso (t := 94) rfl hs106 rfl ?_
        refine pG_many 1 (pc1 := 96) (L1 := [some (.ref 0), some (.int p0), some (.int p1)]) (st1 := [.int ((-2000000))]) (M1 := mjTo Z) rfl ?_
        simp only [Option.some.injEq] at h
        subst h
        exact pG_ret (r := some (.int ((-2000000)))) rfl ⟨rfl, rfl⟩
      rw [if_neg hs106] at h
      by_cases hs107 : ((p1).toInt - 0).toNat = 0
      · rw [if_pos hs107] at h
        refine pG_tsi (t := 40) (j := 0) (o := 25) rfl hs106 hs107 rfl rfl ?_
        refine pG_many 1 (pc1 := 41) (L1 := [some (.ref 0), some (.int p0), some (.int p1)]) (st1 := [.ref 0]) (M1 := mjTo Z) rfl ?_
        refine pG_getR (ci := 11) (f := 2) (b := Z.2.2.1) rfl rfl rfl (by rfl) rfl ?_
        refine pG_many 1 (pc1 := 45) (L1 := [some (.ref 0), some (.int p0), some (.int p1)]) (st1 := [.int p0, .ref Z.2.2.1]) (M1 := mjTo Z) rfl ?_
        cases hq108 : f20_kindOfRule Z.2.2.1 p0 Z with
        | none => rw [hq108] at h; cases h
        | some v109 =>
          rw [hq108, mjBp_some] at h
          refine pG_callV (k2 := 20) (As := [.ref Z.2.2.1, .int p0]) (rest := []) rfl rfl rfl rfl rfl (mjRcv_is hk101 (by decide)) (by decide) (f20_kindOfRule_ok hq108) ?_
          rintro r9 M9 ⟨rfl, rfl⟩
          show pG 172 48 [some (.ref 0), some (.int p0), some (.int p1)] [.int v109] (mjTo Z) _
          simp only [Option.some.injEq] at h
          subst h
          exact pG_ret (r := some (.int v109)) rfl ⟨rfl, rfl⟩
      rw [if_neg hs107] at h
      by_cases hs111 : ((p1).toInt - 0).toNat = 1
      · rw [if_pos hs111] at h
        refine pG_tsi (t := 49) (j := 1) (o := 34) rfl hs106 hs111 rfl rfl ?_
        refine pG_many 1 (pc1 := 50) (L1 := [some (.ref 0), some (.int p0), some (.int p1)]) (st1 := [.ref 0]) (M1 := mjTo Z) rfl ?_
        refine pG_getR (ci := 11) (f := 2) (b := Z.2.2.1) rfl rfl rfl (by rfl) rfl ?_
        refine pG_getR (ci := 2) (f := 12) (b := Z.2.2.1 + 1) rfl rfl rfl hk101 (mjRc2_12 hk101) ?_
        refine pG_many 2 (pc1 := 58) (L1 := [some (.ref 0), some (.int p0), some (.int p1)]) (st1 := [.int 0, .int p0, .ref (Z.2.2.1 + 1)]) (M1 := mjTo Z) rfl ?_
        have hk112 : mjIs (Z.2.2.1 + 1) 251 8 = true := by
          by_cases q9 : mjIs (Z.2.2.1 + 1) 251 8 = true
          · exact q9
          · rw [if_neg q9] at h; cases h
        rw [if_pos hk112] at h
        cases hq113 : f129_comparisonsOf (Z.2.2.1 + 1) p0 0 Z with
        | none => rw [hq113] at h; cases h
        | some v114 =>
          rw [hq113, mjBp_some] at h
          refine pG_callV (k2 := 129) (As := [.ref (Z.2.2.1 + 1), .int p0, .int 0]) (rest := []) rfl rfl rfl rfl rfl (mjRcv_is hk112 (by decide)) (by decide) (f129_comparisonsOf_ok hq113) ?_
          rintro r9 M9 ⟨rfl, rfl⟩
          show pG 172 61 [some (.ref 0), some (.int p0), some (.int p1)] [.int v114] (mjTo Z) _
          simp only [Option.some.injEq] at h
          subst h
          exact pG_ret (r := some (.int v114)) rfl ⟨rfl, rfl⟩
      rw [if_neg hs111] at h
      by_cases hs116 : ((p1).toInt - 0).toNat = 2
      · rw [if_pos hs116] at h
        refine pG_tsi (t := 62) (j := 2) (o := 47) rfl hs106 hs116 rfl rfl ?_
        refine pG_many 1 (pc1 := 63) (L1 := [some (.ref 0), some (.int p0), some (.int p1)]) (st1 := [.ref 0]) (M1 := mjTo Z) rfl ?_
        refine pG_getR (ci := 11) (f := 2) (b := Z.2.2.1) rfl rfl rfl (by rfl) rfl ?_
        refine pG_getR (ci := 2) (f := 12) (b := Z.2.2.1 + 1) rfl rfl rfl hk101 (mjRc2_12 hk101) ?_
        refine pG_many 2 (pc1 := 71) (L1 := [some (.ref 0), some (.int p0), some (.int p1)]) (st1 := [.int 1, .int p0, .ref (Z.2.2.1 + 1)]) (M1 := mjTo Z) rfl ?_
        have hk117 : mjIs (Z.2.2.1 + 1) 251 8 = true := by
          by_cases q9 : mjIs (Z.2.2.1 + 1) 251 8 = true
          · exact q9
          · rw [if_neg q9] at h; cases h
        rw [if_pos hk117] at h
        cases hq118 : f92_isTold (Z.2.2.1 + 1) p0 1 Z with
        | none => rw [hq118] at h; cases h
        | some v119 =>
          rw [hq118, mjBp_some] at h
          refine pG_callV (k2 := 92) (As := [.ref (Z.2.2.1 + 1), .int p0, .int 1]) (rest := []) rfl rfl rfl rfl rfl (mjRcv_is hk117 (by decide)) (by decide) (f92_isTold_ok hq118) ?_
          rintro r9 M9 ⟨rfl, rfl⟩
          show pG 172 74 [some (.ref 0), some (.int p0), some (.int p1)] [.int v119] (mjTo Z) _
          by_cases hc121 : mjCmp .eq v119 0 = true
          · rw [if_pos hc121] at h
            refine pG_ift (t := 92) rfl rfl hc121 ?_
            refine pG_many 1 (pc1 := 93) (L1 := [some (.ref 0), some (.int p0), some (.int p1)]) (st1 := [.int ((-1))]) (M1 := mjTo Z) rfl ?_
            simp only [Option.some.injEq] at h
            subst h
            exact pG_ret (r := some (.int ((-1)))) rfl ⟨rfl, rfl⟩
          · rw [if_neg hc121] at h
            refine pG_iff (t := 92) rfl rfl hc121 ?_
            refine pG_many 1 (pc1 := 78) (L1 := [some (.ref 0), some (.int p0), some (.int p1)]) (st1 := [.ref 0]) (M1 := mjTo Z) rfl ?_
            refine pG_getR (ci := 11) (f := 2) (b := Z.2.2.1) rfl rfl rfl (by rfl) rfl ?_
            refine pG_getR (ci := 2) (f := 12) (b := Z.2.2.1 + 1) rfl rfl rfl hk101 (mjRc2_12 hk101) ?_
            refine pG_many 2 (pc1 := 86) (L1 := [some (.ref 0), some (.int p0), some (.int p1)]) (st1 := [.int 1, .int p0, .ref (Z.2.2.1 + 1)]) (M1 := mjTo Z) rfl ?_
            cases hq122 : f129_comparisonsOf (Z.2.2.1 + 1) p0 1 Z with
            | none => rw [hq122] at h; cases h
            | some v123 =>
              rw [hq122, mjBp_some] at h
              refine pG_callV (k2 := 129) (As := [.ref (Z.2.2.1 + 1), .int p0, .int 1]) (rest := []) rfl rfl rfl rfl rfl (mjRcv_is hk117 (by decide)) (by decide) (f129_comparisonsOf_ok hq122) ?_
              rintro r9 M9 ⟨rfl, rfl⟩
              show pG 172 89 [some (.ref 0), some (.int p0), some (.int p1)] [.int v123] (mjTo Z) _
              refine pG_many 1 (pc1 := 93) (L1 := [some (.ref 0), some (.int p0), some (.int p1)]) (st1 := [.int v123]) (M1 := mjTo Z) rfl ?_
              simp only [Option.some.injEq] at h
              subst h
              exact pG_ret (r := some (.int v123)) rfl ⟨rfl, rfl⟩
      rw [if_neg hs116] at h
      cases h
    · rw [if_neg hc105] at h
      refine pG_iff (t := 14) rfl rfl hc105 ?_
      refine pG_many 1 (pc1 := 13) (L1 := [some (.ref 0), some (.int p0), some (.int p1)]) (st1 := [.int ((-2000000))]) (M1 := mjTo Z) rfl ?_
      simp only [Option.some.injEq] at h
      subst h
      exact pG_ret (r := some (.int ((-2000000)))) rfl ⟨rfl, rfl⟩
def f173_canHold (p0 : Int32) (p1 : Int32) (p2 : Int32) (Z : mjZt) : Option Int32 :=
  if mjIs Z.2.2.1 251 2 = true then
  mjBp (f16_hasRule Z.2.2.1 p0 Z) fun v103 =>
  if mjCmp .eq v103 0 = true then
    some 0
  else
    mjBp (f17_hasAct Z.2.2.1 p2 Z) fun v107 =>
    if mjCmp .eq v107 0 = true then
      some 0
    else
      if mjIs (Z.2.2.1 + 1) 251 8 = true then
      mjBp (f92_isTold (Z.2.2.1 + 1) p0 p1 Z) fun v112 =>
      if mjCmp .eq v112 0 = true then
        some 0
      else
        some 1
      else none
  else none
theorem f173_canHold_ok {p0 : Int32} {p1 : Int32} {p2 : Int32} {Z : mjZt} {v9 : Int32} (h : f173_canHold p0 p1 p2 Z = some v9) : pG 173 0 (mjEnt [.ref 0, .int p0, .int p1, .int p2] (mjML 173)) [] (mjTo Z) (fun r M1 => r = some (.int v9) ∧ M1 = mjTo Z) := by
  unfold f173_canHold at h
  show pG 173 0 [some (.ref 0), some (.int p0), some (.int p1), some (.int p2)] [] (mjTo Z) _
  refine pG_many 1 (pc1 := 1) (L1 := [some (.ref 0), some (.int p0), some (.int p1), some (.int p2)]) (st1 := [.ref 0]) (M1 := mjTo Z) rfl ?_
  refine pG_getR (ci := 11) (f := 2) (b := Z.2.2.1) rfl rfl rfl (by rfl) rfl ?_
  refine pG_many 1 (pc1 := 5) (L1 := [some (.ref 0), some (.int p0), some (.int p1), some (.int p2)]) (st1 := [.int p0, .ref Z.2.2.1]) (M1 := mjTo Z) rfl ?_
  have hk101 : mjIs Z.2.2.1 251 2 = true := by
    by_cases q9 : mjIs Z.2.2.1 251 2 = true
    · exact q9
    · rw [if_neg q9] at h; cases h
  rw [if_pos hk101] at h
  cases hq102 : f16_hasRule Z.2.2.1 p0 Z with
  | none => rw [hq102] at h; cases h
  | some v103 =>
    rw [hq102, mjBp_some] at h
    refine pG_callV (k2 := 16) (As := [.ref Z.2.2.1, .int p0]) (rest := []) rfl rfl rfl rfl rfl (mjRcv_is hk101 (by decide)) (by decide) (f16_hasRule_ok hq102) ?_
    rintro r9 M9 ⟨rfl, rfl⟩
    show pG 173 8 [some (.ref 0), some (.int p0), some (.int p1), some (.int p2)] [.int v103] (mjTo Z) _
    by_cases hc105 : mjCmp .eq v103 0 = true
    · rw [if_pos hc105] at h
      refine pG_ift (t := 41) rfl rfl hc105 ?_
      refine pG_many 1 (pc1 := 42) (L1 := [some (.ref 0), some (.int p0), some (.int p1), some (.int p2)]) (st1 := [.int 0]) (M1 := mjTo Z) rfl ?_
      simp only [Option.some.injEq] at h
      subst h
      exact pG_ret (r := some (.int 0)) rfl ⟨rfl, rfl⟩
    · rw [if_neg hc105] at h
      refine pG_iff (t := 41) rfl rfl hc105 ?_
      refine pG_many 1 (pc1 := 12) (L1 := [some (.ref 0), some (.int p0), some (.int p1), some (.int p2)]) (st1 := [.ref 0]) (M1 := mjTo Z) rfl ?_
      refine pG_getR (ci := 11) (f := 2) (b := Z.2.2.1) rfl rfl rfl (by rfl) rfl ?_
      refine pG_many 1 (pc1 := 16) (L1 := [some (.ref 0), some (.int p0), some (.int p1), some (.int p2)]) (st1 := [.int p2, .ref Z.2.2.1]) (M1 := mjTo Z) rfl ?_
      cases hq106 : f17_hasAct Z.2.2.1 p2 Z with
      | none => rw [hq106] at h; cases h
      | some v107 =>
        rw [hq106, mjBp_some] at h
        refine pG_callV (k2 := 17) (As := [.ref Z.2.2.1, .int p2]) (rest := []) rfl rfl rfl rfl rfl (mjRcv_is hk101 (by decide)) (by decide) (f17_hasAct_ok hq106) ?_
        rintro r9 M9 ⟨rfl, rfl⟩
        show pG 173 19 [some (.ref 0), some (.int p0), some (.int p1), some (.int p2)] [.int v107] (mjTo Z) _
        by_cases hc109 : mjCmp .eq v107 0 = true
        · rw [if_pos hc109] at h
          refine pG_ift (t := 41) rfl rfl hc109 ?_
          refine pG_many 1 (pc1 := 42) (L1 := [some (.ref 0), some (.int p0), some (.int p1), some (.int p2)]) (st1 := [.int 0]) (M1 := mjTo Z) rfl ?_
          simp only [Option.some.injEq] at h
          subst h
          exact pG_ret (r := some (.int 0)) rfl ⟨rfl, rfl⟩
        · rw [if_neg hc109] at h
          refine pG_iff (t := 41) rfl rfl hc109 ?_
          refine pG_many 1 (pc1 := 23) (L1 := [some (.ref 0), some (.int p0), some (.int p1), some (.int p2)]) (st1 := [.ref 0]) (M1 := mjTo Z) rfl ?_
          refine pG_getR (ci := 11) (f := 2) (b := Z.2.2.1) rfl rfl rfl (by rfl) rfl ?_
          refine pG_getR (ci := 2) (f := 12) (b := Z.2.2.1 + 1) rfl rfl rfl hk101 (mjRc2_12 hk101) ?_
          refine pG_many 2 (pc1 := 31) (L1 := [some (.ref 0), some (.int p0), some (.int p1), some (.int p2)]) (st1 := [.int p1, .int p0, .ref (Z.2.2.1 + 1)]) (M1 := mjTo Z) rfl ?_
          have hk110 : mjIs (Z.2.2.1 + 1) 251 8 = true := by
            by_cases q9 : mjIs (Z.2.2.1 + 1) 251 8 = true
            · exact q9
            · rw [if_neg q9] at h; cases h
          rw [if_pos hk110] at h
          cases hq111 : f92_isTold (Z.2.2.1 + 1) p0 p1 Z with
          | none => rw [hq111] at h; cases h
          | some v112 =>
            rw [hq111, mjBp_some] at h
            refine pG_callV (k2 := 92) (As := [.ref (Z.2.2.1 + 1), .int p0, .int p1]) (rest := []) rfl rfl rfl rfl rfl (mjRcv_is hk110 (by decide)) (by decide) (f92_isTold_ok hq111) ?_
            rintro r9 M9 ⟨rfl, rfl⟩
            show pG 173 34 [some (.ref 0), some (.int p0), some (.int p1), some (.int p2)] [.int v112] (mjTo Z) _
            by_cases hc114 : mjCmp .eq v112 0 = true
            · rw [if_pos hc114] at h
              refine pG_ift (t := 41) rfl rfl hc114 ?_
              refine pG_many 1 (pc1 := 42) (L1 := [some (.ref 0), some (.int p0), some (.int p1), some (.int p2)]) (st1 := [.int 0]) (M1 := mjTo Z) rfl ?_
              simp only [Option.some.injEq] at h
              subst h
              exact pG_ret (r := some (.int 0)) rfl ⟨rfl, rfl⟩
            · rw [if_neg hc114] at h
              refine pG_iff (t := 41) rfl rfl hc114 ?_
              refine pG_many 2 (pc1 := 42) (L1 := [some (.ref 0), some (.int p0), some (.int p1), some (.int p2)]) (st1 := [.int 1]) (M1 := mjTo Z) rfl ?_
              simp only [Option.some.injEq] at h
              subst h
              exact pG_ret (r := some (.int 1)) rfl ⟨rfl, rfl⟩
def f174_holds (p0 : Int32) (p1 : Int32) (p2 : Int32) (Z : mjZt) : Option (Int32 × mjZt) :=
  mjBp (f173_canHold p0 p1 p2 Z) fun v102 =>
  if mjCmp .ne v102 0 = true then
    mjBd (f75_lookAt Z.2.2.1 p2 Z) fun _ Z107 =>
    if mjIs Z107.2.2.1 251 2 = true then
    mjBd (f85_isSo (Z107.2.2.1 + 1) p0 p1 Z107) fun v110 Z111 =>
    if mjCmp .eq v110 0 = true then
      some (0, Z111)
    else
      some (1, Z111)
    else none
  else
    some ((-2000000), Z)
theorem f174_holds_ok {p0 : Int32} {p1 : Int32} {p2 : Int32} {Z : mjZt} {v9 : Int32} {Z9 : mjZt} (h : f174_holds p0 p1 p2 Z = some (v9, Z9)) : pG 174 0 (mjEnt [.ref 0, .int p0, .int p1, .int p2] (mjML 174)) [] (mjTo Z) (fun r M1 => r = some (.int v9) ∧ M1 = mjTo Z9) := by
  unfold f174_holds at h
  show pG 174 0 [some (.ref 0), some (.int p0), some (.int p1), some (.int p2)] [] (mjTo Z) _
  refine pG_many 4 (pc1 := 4) (L1 := [some (.ref 0), some (.int p0), some (.int p1), some (.int p2)]) (st1 := [.int p2, .int p1, .int p0, .ref 0]) (M1 := mjTo Z) rfl ?_
  cases hq101 : f173_canHold p0 p1 p2 Z with
  | none => rw [hq101] at h; cases h
  | some v102 =>
    rw [hq101, mjBp_some] at h
    refine pG_callV (k2 := 173) (As := [.ref 0, .int p0, .int p1, .int p2]) (rest := []) rfl rfl rfl rfl rfl (by rfl) (by decide) (f173_canHold_ok hq101) ?_
    rintro r9 M9 ⟨rfl, rfl⟩
    show pG 174 7 [some (.ref 0), some (.int p0), some (.int p1), some (.int p2)] [.int v102] (mjTo Z) _
    by_cases hc104 : mjCmp .ne v102 0 = true
    · rw [if_pos hc104] at h
      refine pG_ift (t := 13) rfl rfl hc104 ?_
      refine pG_many 1 (pc1 := 14) (L1 := [some (.ref 0), some (.int p0), some (.int p1), some (.int p2)]) (st1 := [.ref 0]) (M1 := mjTo Z) rfl ?_
      refine pG_getR (ci := 11) (f := 6) (b := 190) rfl rfl rfl (by rfl) rfl ?_
      refine pG_many 1 (pc1 := 18) (L1 := [some (.ref 0), some (.int p0), some (.int p1), some (.int p2)]) (st1 := [.ref 0, .ref 190]) (M1 := mjTo Z) rfl ?_
      refine pG_getR (ci := 11) (f := 2) (b := Z.2.2.1) rfl rfl rfl (by rfl) rfl ?_
      refine pG_many 1 (pc1 := 22) (L1 := [some (.ref 0), some (.int p0), some (.int p1), some (.int p2)]) (st1 := [.int p2, .ref Z.2.2.1, .ref 190]) (M1 := mjTo Z) rfl ?_
      cases hq105 : f75_lookAt Z.2.2.1 p2 Z with
      | none => rw [hq105] at h; cases h
      | some w =>
        obtain ⟨v106, Z107⟩ := w
        rw [hq105, mjBd_some] at h
        refine pG_callV (k2 := 75) (As := [.ref 190, .ref Z.2.2.1, .int p2]) (rest := []) rfl rfl rfl rfl rfl (by rfl) (by decide) (f75_lookAt_ok hq105) ?_
        rintro r9 M9 ⟨rfl, rfl⟩
        show pG 174 25 [some (.ref 0), some (.int p0), some (.int p1), some (.int p2)] [] (mjTo Z107) _
        refine pG_many 1 (pc1 := 26) (L1 := [some (.ref 0), some (.int p0), some (.int p1), some (.int p2)]) (st1 := [.ref 0]) (M1 := mjTo Z107) rfl ?_
        refine pG_getR (ci := 11) (f := 6) (b := 190) rfl rfl rfl (by rfl) rfl ?_
        refine pG_many 1 (pc1 := 30) (L1 := [some (.ref 0), some (.int p0), some (.int p1), some (.int p2)]) (st1 := [.ref 0, .ref 190]) (M1 := mjTo Z107) rfl ?_
        refine pG_getR (ci := 11) (f := 2) (b := Z107.2.2.1) rfl rfl rfl (by rfl) rfl ?_
        have hk108 : mjIs Z107.2.2.1 251 2 = true := by
          by_cases q9 : mjIs Z107.2.2.1 251 2 = true
          · exact q9
          · rw [if_neg q9] at h; cases h
        rw [if_pos hk108] at h
        refine pG_getR (ci := 2) (f := 12) (b := Z107.2.2.1 + 1) rfl rfl rfl hk108 (mjRc2_12 hk108) ?_
        refine pG_many 2 (pc1 := 38) (L1 := [some (.ref 0), some (.int p0), some (.int p1), some (.int p2)]) (st1 := [.int p1, .int p0, .ref (Z107.2.2.1 + 1), .ref 190]) (M1 := mjTo Z107) rfl ?_
        cases hq109 : f85_isSo (Z107.2.2.1 + 1) p0 p1 Z107 with
        | none => rw [hq109] at h; cases h
        | some w =>
          obtain ⟨v110, Z111⟩ := w
          rw [hq109, mjBd_some] at h
          refine pG_callV (k2 := 85) (As := [.ref 190, .ref (Z107.2.2.1 + 1), .int p0, .int p1]) (rest := []) rfl rfl rfl rfl rfl (by rfl) (by decide) (f85_isSo_ok hq109) ?_
          rintro r9 M9 ⟨rfl, rfl⟩
          show pG 174 41 [some (.ref 0), some (.int p0), some (.int p1), some (.int p2)] [.int v110] (mjTo Z111) _
          by_cases hc112 : mjCmp .eq v110 0 = true
          · rw [if_pos hc112] at h
            refine pG_ift (t := 48) rfl rfl hc112 ?_
            refine pG_many 1 (pc1 := 49) (L1 := [some (.ref 0), some (.int p0), some (.int p1), some (.int p2)]) (st1 := [.int 0]) (M1 := mjTo Z111) rfl ?_
            simp only [Option.some.injEq, Prod.mk.injEq] at h
            obtain ⟨rfl, rfl⟩ := h
            exact pG_ret (r := some (.int 0)) rfl ⟨rfl, rfl⟩
          · rw [if_neg hc112] at h
            refine pG_iff (t := 48) rfl rfl hc112 ?_
            refine pG_many 2 (pc1 := 49) (L1 := [some (.ref 0), some (.int p0), some (.int p1), some (.int p2)]) (st1 := [.int 1]) (M1 := mjTo Z111) rfl ?_
            simp only [Option.some.injEq, Prod.mk.injEq] at h
            obtain ⟨rfl, rfl⟩ := h
            exact pG_ret (r := some (.int 1)) rfl ⟨rfl, rfl⟩
    · rw [if_neg hc104] at h
      refine pG_iff (t := 13) rfl rfl hc104 ?_
      refine pG_many 1 (pc1 := 12) (L1 := [some (.ref 0), some (.int p0), some (.int p1), some (.int p2)]) (st1 := [.int ((-2000000))]) (M1 := mjTo Z) rfl ?_
      simp only [Option.some.injEq, Prod.mk.injEq] at h
      obtain ⟨rfl, rfl⟩ := h
      exact pG_ret (r := some (.int ((-2000000)))) rfl ⟨rfl, rfl⟩
