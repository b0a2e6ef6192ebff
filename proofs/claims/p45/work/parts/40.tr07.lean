def f169_inBox (p0 : Int32) (p1 : Int32) (Z : mjZt) : Option Int32 :=
  if mjIs Z.2.2.1 211 2 = true then
  mjBp (f7_hasTeam Z.2.2.1 p0 Z) fun v103 =>
  if mjCmp .eq v103 0 = true then
    some ((-1))
  else
    mjBp (f158_isTenth p1 Z) fun v107 =>
    if mjCmp .ne v107 0 = true then
      mjBp (f8_runner Z.2.2.1 p0 Z) fun v111 =>
      if mjIs v111 211 7 = true then
      mjBp (f73_whereAt v111 p1 Z) fun v115 =>
      mjBp (f38_isInABox Z.2.2.1 v115 Z) fun v118 =>
      if mjCmp .eq v118 0 = true then
        some 0
      else
        some 1
      else none
    else
      some ((-1))
  else none
theorem f169_inBox_ok {p0 : Int32} {p1 : Int32} {Z : mjZt} {v9 : Int32} (h : f169_inBox p0 p1 Z = some v9) : pG 148 0 (mjEnt [.ref 0, .int p0, .int p1] (mjML 148)) [] (mjTo Z) (fun r M1 => r = some (.int v9) ∧ M1 = mjTo Z) := by
  unfold f169_inBox at h
  show pG 148 0 [some (.ref 0), some (.int p0), some (.int p1)] [] (mjTo Z) _
  refine pG_many 1 (pc1 := 1) (L1 := [some (.ref 0), some (.int p0), some (.int p1)]) (st1 := [.ref 0]) (M1 := mjTo Z) (fun _ _ => rfl) ?_
  refine pG_getR (ci := 11) (f := 2) (b := Z.2.2.1) rfl rfl rfl (by rfl) (by decide) rfl ?_
  refine pG_many 1 (pc1 := 5) (L1 := [some (.ref 0), some (.int p0), some (.int p1)]) (st1 := [.int p0, .ref Z.2.2.1]) (M1 := mjTo Z) (fun _ _ => rfl) ?_
  have hk101 : mjIs Z.2.2.1 211 2 = true := by
    by_cases q9 : mjIs Z.2.2.1 211 2 = true
    · exact q9
    · rw [if_neg q9] at h; cases h
  rw [if_pos hk101] at h
  cases hq102 : f7_hasTeam Z.2.2.1 p0 Z with
  | none => rw [hq102] at h; cases h
  | some v103 =>
    rw [hq102, mjBp_some] at h
    refine pG_callV (k2 := 7) (As := [.ref Z.2.2.1, .int p0]) (rest := []) rfl rfl rfl rfl rfl (mjRcv_is hk101 (by decide)) (by decide) (by decide) (f7_hasTeam_ok hq102) ?_
    rintro r9 M9 ⟨rfl, rfl⟩
    show pG 148 8 [some (.ref 0), some (.int p0), some (.int p1)] [.int v103] (mjTo Z) _
    by_cases hc105 : mjCmp .eq v103 0 = true
    · rw [if_pos hc105] at h
      refine pG_ift (t := 18) rfl rfl hc105 ?_
      refine pG_many 1 (pc1 := 19) (L1 := [some (.ref 0), some (.int p0), some (.int p1)]) (st1 := [.int ((-1))]) (M1 := mjTo Z) (fun _ _ => rfl) ?_
      simp only [Option.some.injEq] at h
      subst h
      exact pG_ret (r := some (.int ((-1)))) rfl ⟨rfl, rfl⟩
    · rw [if_neg hc105] at h
      refine pG_iff (t := 18) rfl rfl hc105 ?_
      refine pG_many 1 (pc1 := 12) (L1 := [some (.ref 0), some (.int p0), some (.int p1)]) (st1 := [.int p1]) (M1 := mjTo Z) (fun _ _ => rfl) ?_
      cases hq106 : f158_isTenth p1 Z with
      | none => rw [hq106] at h; cases h
      | some v107 =>
        rw [hq106, mjBp_some] at h
        refine pG_call (k2 := 143) (As := [.int p1]) (rest := []) (fun _ _ => rfl) (by decide) (by decide) (f158_isTenth_ok hq106) ?_
        rintro r9 M9 ⟨rfl, rfl⟩
        show pG 148 15 [some (.ref 0), some (.int p0), some (.int p1)] [.int v107] (mjTo Z) _
        by_cases hc109 : mjCmp .ne v107 0 = true
        · rw [if_pos hc109] at h
          refine pG_ift (t := 20) rfl rfl hc109 ?_
          refine pG_many 1 (pc1 := 21) (L1 := [some (.ref 0), some (.int p0), some (.int p1)]) (st1 := [.ref 0]) (M1 := mjTo Z) (fun _ _ => rfl) ?_
          refine pG_getR (ci := 11) (f := 2) (b := Z.2.2.1) rfl rfl rfl (by rfl) (by decide) rfl ?_
          refine pG_many 1 (pc1 := 25) (L1 := [some (.ref 0), some (.int p0), some (.int p1)]) (st1 := [.ref 0, .ref Z.2.2.1]) (M1 := mjTo Z) (fun _ _ => rfl) ?_
          refine pG_getR (ci := 11) (f := 2) (b := Z.2.2.1) rfl rfl rfl (by rfl) (by decide) rfl ?_
          refine pG_many 1 (pc1 := 29) (L1 := [some (.ref 0), some (.int p0), some (.int p1)]) (st1 := [.int p0, .ref Z.2.2.1, .ref Z.2.2.1]) (M1 := mjTo Z) (fun _ _ => rfl) ?_
          cases hq110 : f8_runner Z.2.2.1 p0 Z with
          | none => rw [hq110] at h; cases h
          | some v111 =>
            rw [hq110, mjBp_some] at h
            refine pG_callV (k2 := 8) (As := [.ref Z.2.2.1, .int p0]) (rest := [.ref Z.2.2.1]) rfl rfl rfl rfl rfl (mjRcv_is hk101 (by decide)) (by decide) (by decide) (f8_runner_ok hq110) ?_
            rintro r9 M9 ⟨rfl, rfl⟩
            show pG 148 32 [some (.ref 0), some (.int p0), some (.int p1)] [.ref v111, .ref Z.2.2.1] (mjTo Z) _
            refine pG_many 1 (pc1 := 33) (L1 := [some (.ref 0), some (.int p0), some (.int p1)]) (st1 := [.int p1, .ref v111, .ref Z.2.2.1]) (M1 := mjTo Z) (fun _ _ => rfl) ?_
            have hk113 : mjIs v111 211 7 = true := by
              by_cases q9 : mjIs v111 211 7 = true
              · exact q9
              · rw [if_neg q9] at h; cases h
            rw [if_pos hk113] at h
            cases hq114 : f73_whereAt v111 p1 Z with
            | none => rw [hq114] at h; cases h
            | some v115 =>
              rw [hq114, mjBp_some] at h
              refine pG_callV (k2 := 72) (As := [.ref v111, .int p1]) (rest := [.ref Z.2.2.1]) rfl rfl rfl rfl rfl (mjRcv_is hk113 (by decide)) (by decide) (by decide) (f73_whereAt_ok hq114) ?_
              rintro r9 M9 ⟨rfl, rfl⟩
              show pG 148 36 [some (.ref 0), some (.int p0), some (.int p1)] [.int v115, .ref Z.2.2.1] (mjTo Z) _
              cases hq117 : f38_isInABox Z.2.2.1 v115 Z with
              | none => rw [hq117] at h; cases h
              | some v118 =>
                rw [hq117, mjBp_some] at h
                refine pG_callV (k2 := 38) (As := [.ref Z.2.2.1, .int v115]) (rest := []) rfl rfl rfl rfl rfl (mjRcv_is hk101 (by decide)) (by decide) (by decide) (f38_isInABox_ok hq117) ?_
                rintro r9 M9 ⟨rfl, rfl⟩
                show pG 148 39 [some (.ref 0), some (.int p0), some (.int p1)] [.int v118] (mjTo Z) _
                by_cases hc120 : mjCmp .eq v118 0 = true
                · rw [if_pos hc120] at h
                  refine pG_ift (t := 46) rfl rfl hc120 ?_
                  refine pG_many 1 (pc1 := 47) (L1 := [some (.ref 0), some (.int p0), some (.int p1)]) (st1 := [.int 0]) (M1 := mjTo Z) (fun _ _ => rfl) ?_
                  simp only [Option.some.injEq] at h
                  subst h
                  exact pG_ret (r := some (.int 0)) rfl ⟨rfl, rfl⟩
                · rw [if_neg hc120] at h
                  refine pG_iff (t := 46) rfl rfl hc120 ?_
                  refine pG_many 2 (pc1 := 47) (L1 := [some (.ref 0), some (.int p0), some (.int p1)]) (st1 := [.int 1]) (M1 := mjTo Z) (fun _ _ => rfl) ?_
                  simp only [Option.some.injEq] at h
                  subst h
                  exact pG_ret (r := some (.int 1)) rfl ⟨rfl, rfl⟩
        · rw [if_neg hc109] at h
          refine pG_iff (t := 20) rfl rfl hc109 ?_
          refine pG_many 1 (pc1 := 19) (L1 := [some (.ref 0), some (.int p0), some (.int p1)]) (st1 := [.int ((-1))]) (M1 := mjTo Z) (fun _ _ => rfl) ?_
          simp only [Option.some.injEq] at h
          subst h
          exact pG_ret (r := some (.int ((-1)))) rfl ⟨rfl, rfl⟩
def f170_act (p0 : Int32) (p1 : Int32) (Z : mjZt) : Option Int32 :=
  if mjIs Z.2.2.1 211 2 = true then
  mjBp (f17_hasAct Z.2.2.1 p0 Z) fun v103 =>
  if mjCmp .ne v103 0 = true then
    mjBp (f6_deed Z.2.2.1 p0 Z) fun v107 =>
    if (p1).toInt < 0 ∨ 5 < (p1).toInt then
      some ((-2000000))
    else if ((p1).toInt - 0).toNat = 0 then
      if mjIs v107 211 0 = true then
      some (Z.1 v107 0)
      else none
    else if ((p1).toInt - 0).toNat = 1 then
      if mjIs v107 211 0 = true then
      some (Z.1 v107 1)
      else none
    else if ((p1).toInt - 0).toNat = 2 then
      if mjIs v107 211 0 = true then
      some (Z.1 v107 2)
      else none
    else if ((p1).toInt - 0).toNat = 3 then
      if mjIs v107 211 0 = true then
      some (Z.1 v107 3)
      else none
    else if ((p1).toInt - 0).toNat = 4 then
      if mjIs v107 211 0 = true then
      some (Z.1 v107 4)
      else none
    else if ((p1).toInt - 0).toNat = 5 then
      if mjCmp .ne (lg_cmp (((Z.2.1 Z.2.2.1 11) >>> (Int32.toInt64 p0 &&& 63)) &&& 1) 1) 0 = true then
        some 0
      else
        some 1
    else none
  else
    some ((-2000000))
  else none
theorem f170_act_ok {p0 : Int32} {p1 : Int32} {Z : mjZt} {v9 : Int32} (h : f170_act p0 p1 Z = some v9) : pG 149 0 (mjEnt [.ref 0, .int p0, .int p1] (mjML 149)) [] (mjTo Z) (fun r M1 => r = some (.int v9) ∧ M1 = mjTo Z) := by
  unfold f170_act at h
  show pG 149 0 [some (.ref 0), some (.int p0), some (.int p1), none] [] (mjTo Z) _
  refine pG_many 1 (pc1 := 1) (L1 := [some (.ref 0), some (.int p0), some (.int p1), none]) (st1 := [.ref 0]) (M1 := mjTo Z) (fun _ _ => rfl) ?_
  refine pG_getR (ci := 11) (f := 2) (b := Z.2.2.1) rfl rfl rfl (by rfl) (by decide) rfl ?_
  refine pG_many 1 (pc1 := 5) (L1 := [some (.ref 0), some (.int p0), some (.int p1), none]) (st1 := [.int p0, .ref Z.2.2.1]) (M1 := mjTo Z) (fun _ _ => rfl) ?_
  have hk101 : mjIs Z.2.2.1 211 2 = true := by
    by_cases q9 : mjIs Z.2.2.1 211 2 = true
    · exact q9
    · rw [if_neg q9] at h; cases h
  rw [if_pos hk101] at h
  cases hq102 : f17_hasAct Z.2.2.1 p0 Z with
  | none => rw [hq102] at h; cases h
  | some v103 =>
    rw [hq102, mjBp_some] at h
    refine pG_callV (k2 := 17) (As := [.ref Z.2.2.1, .int p0]) (rest := []) rfl rfl rfl rfl rfl (mjRcv_is hk101 (by decide)) (by decide) (by decide) (f17_hasAct_ok hq102) ?_
    rintro r9 M9 ⟨rfl, rfl⟩
    show pG 149 8 [some (.ref 0), some (.int p0), some (.int p1), none] [.int v103] (mjTo Z) _
    by_cases hc105 : mjCmp .ne v103 0 = true
    · rw [if_pos hc105] at h
      refine pG_ift (t := 14) rfl rfl hc105 ?_
      refine pG_many 1 (pc1 := 15) (L1 := [some (.ref 0), some (.int p0), some (.int p1), none]) (st1 := [.ref 0]) (M1 := mjTo Z) (fun _ _ => rfl) ?_
      refine pG_getR (ci := 11) (f := 2) (b := Z.2.2.1) rfl rfl rfl (by rfl) (by decide) rfl ?_
      refine pG_many 1 (pc1 := 19) (L1 := [some (.ref 0), some (.int p0), some (.int p1), none]) (st1 := [.int p0, .ref Z.2.2.1]) (M1 := mjTo Z) (fun _ _ => rfl) ?_
      cases hq106 : f6_deed Z.2.2.1 p0 Z with
      | none => rw [hq106] at h; cases h
      | some v107 =>
        rw [hq106, mjBp_some] at h
        refine pG_callV (k2 := 6) (As := [.ref Z.2.2.1, .int p0]) (rest := []) rfl rfl rfl rfl rfl (mjRcv_is hk101 (by decide)) (by decide) (by decide) (f6_deed_ok hq106) ?_
        rintro r9 M9 ⟨rfl, rfl⟩
        show pG 149 22 [some (.ref 0), some (.int p0), some (.int p1), none] [.ref v107] (mjTo Z) _
        refine pG_many 2 (pc1 := 24) (L1 := [some (.ref 0), some (.int p0), some (.int p1), some (.ref v107)]) (st1 := [.int p1]) (M1 := mjTo Z) (fun _ _ => rfl) ?_
        by_cases hs109 : (p1).toInt < 0 ∨ 5 < (p1).toInt
        · rw [if_pos hs109] at h
          refine pG_tso (t := 111) rfl hs109 rfl ?_
          refine pG_many 1 (pc1 := 113) (L1 := [some (.ref 0), some (.int p0), some (.int p1), some (.ref v107)]) (st1 := [.int ((-2000000))]) (M1 := mjTo Z) (fun _ _ => rfl) ?_
          simp only [Option.some.injEq] at h
          subst h
          exact pG_ret (r := some (.int ((-2000000)))) rfl ⟨rfl, rfl⟩
        rw [if_neg hs109] at h
        by_cases hs110 : ((p1).toInt - 0).toNat = 0
        · rw [if_pos hs110] at h
          refine pG_tsi (t := 64) (j := 0) (o := 40) rfl hs109 hs110 rfl rfl ?_
          refine pG_many 1 (pc1 := 65) (L1 := [some (.ref 0), some (.int p0), some (.int p1), some (.ref v107)]) (st1 := [.ref v107]) (M1 := mjTo Z) (fun _ _ => rfl) ?_
          have hk111 : mjIs v107 211 0 = true := by
            by_cases q9 : mjIs v107 211 0 = true
            · exact q9
            · rw [if_neg q9] at h; cases h
          rw [if_pos hk111] at h
          refine pG_getI (ci := 0) (f := 0) rfl rfl (Or.inl rfl) hk111 (by decide) ?_
          simp only [Option.some.injEq] at h
          subst h
          exact pG_ret (r := some (.int (Z.1 v107 0))) rfl ⟨rfl, rfl⟩
        rw [if_neg hs110] at h
        by_cases hs112 : ((p1).toInt - 0).toNat = 1
        · rw [if_pos hs112] at h
          refine pG_tsi (t := 69) (j := 1) (o := 45) rfl hs109 hs112 rfl rfl ?_
          refine pG_many 1 (pc1 := 70) (L1 := [some (.ref 0), some (.int p0), some (.int p1), some (.ref v107)]) (st1 := [.ref v107]) (M1 := mjTo Z) (fun _ _ => rfl) ?_
          have hk113 : mjIs v107 211 0 = true := by
            by_cases q9 : mjIs v107 211 0 = true
            · exact q9
            · rw [if_neg q9] at h; cases h
          rw [if_pos hk113] at h
          refine pG_getI (ci := 0) (f := 1) rfl rfl (Or.inl rfl) hk113 (by decide) ?_
          simp only [Option.some.injEq] at h
          subst h
          exact pG_ret (r := some (.int (Z.1 v107 1))) rfl ⟨rfl, rfl⟩
        rw [if_neg hs112] at h
        by_cases hs114 : ((p1).toInt - 0).toNat = 2
        · rw [if_pos hs114] at h
          refine pG_tsi (t := 74) (j := 2) (o := 50) rfl hs109 hs114 rfl rfl ?_
          refine pG_many 1 (pc1 := 75) (L1 := [some (.ref 0), some (.int p0), some (.int p1), some (.ref v107)]) (st1 := [.ref v107]) (M1 := mjTo Z) (fun _ _ => rfl) ?_
          have hk115 : mjIs v107 211 0 = true := by
            by_cases q9 : mjIs v107 211 0 = true
            · exact q9
            · rw [if_neg q9] at h; cases h
          rw [if_pos hk115] at h
          refine pG_getI (ci := 0) (f := 2) rfl rfl (Or.inl rfl) hk115 (by decide) ?_
          simp only [Option.some.injEq] at h
          subst h
          exact pG_ret (r := some (.int (Z.1 v107 2))) rfl ⟨rfl, rfl⟩
        rw [if_neg hs114] at h
        by_cases hs116 : ((p1).toInt - 0).toNat = 3
        · rw [if_pos hs116] at h
          refine pG_tsi (t := 79) (j := 3) (o := 55) rfl hs109 hs116 rfl rfl ?_
          refine pG_many 1 (pc1 := 80) (L1 := [some (.ref 0), some (.int p0), some (.int p1), some (.ref v107)]) (st1 := [.ref v107]) (M1 := mjTo Z) (fun _ _ => rfl) ?_
          have hk117 : mjIs v107 211 0 = true := by
            by_cases q9 : mjIs v107 211 0 = true
            · exact q9
            · rw [if_neg q9] at h; cases h
          rw [if_pos hk117] at h
          refine pG_getI (ci := 0) (f := 3) rfl rfl (Or.inl rfl) hk117 (by decide) ?_
          simp only [Option.some.injEq] at h
          subst h
          exact pG_ret (r := some (.int (Z.1 v107 3))) rfl ⟨rfl, rfl⟩
        rw [if_neg hs116] at h
        by_cases hs118 : ((p1).toInt - 0).toNat = 4
        · rw [if_pos hs118] at h
          refine pG_tsi (t := 84) (j := 4) (o := 60) rfl hs109 hs118 rfl rfl ?_
          refine pG_many 1 (pc1 := 85) (L1 := [some (.ref 0), some (.int p0), some (.int p1), some (.ref v107)]) (st1 := [.ref v107]) (M1 := mjTo Z) (fun _ _ => rfl) ?_
          have hk119 : mjIs v107 211 0 = true := by
            by_cases q9 : mjIs v107 211 0 = true
            · exact q9
            · rw [if_neg q9] at h; cases h
          rw [if_pos hk119] at h
          refine pG_getI (ci := 0) (f := 4) rfl rfl (Or.inl rfl) hk119 (by decide) ?_
          simp only [Option.some.injEq] at h
          subst h
          exact pG_ret (r := some (.int (Z.1 v107 4))) rfl ⟨rfl, rfl⟩
        rw [if_neg hs118] at h
        by_cases hs120 : ((p1).toInt - 0).toNat = 5
        · rw [if_pos hs120] at h
          refine pG_tsi (t := 89) (j := 5) (o := 65) rfl hs109 hs120 rfl rfl ?_
          refine pG_many 1 (pc1 := 90) (L1 := [some (.ref 0), some (.int p0), some (.int p1), some (.ref v107)]) (st1 := [.ref 0]) (M1 := mjTo Z) (fun _ _ => rfl) ?_
          refine pG_getR (ci := 11) (f := 2) (b := Z.2.2.1) rfl rfl rfl (by rfl) (by decide) rfl ?_
          refine pG_getL (ci := 2) (f := 11) rfl rfl rfl hk101 (by decide) ?_
          refine pG_many 6 (pc1 := 102) (L1 := [some (.ref 0), some (.int p0), some (.int p1), some (.ref v107)]) (st1 := [.int (lg_cmp (((Z.2.1 Z.2.2.1 11) >>> (Int32.toInt64 p0 &&& 63)) &&& 1) 1)]) (M1 := mjTo Z) (fun _ _ => rfl) ?_
          by_cases hc121 : mjCmp .ne (lg_cmp (((Z.2.1 Z.2.2.1 11) >>> (Int32.toInt64 p0 &&& 63)) &&& 1) 1) 0 = true
          · rw [if_pos hc121] at h
            refine pG_ift (t := 109) rfl rfl hc121 ?_
            refine pG_many 1 (pc1 := 110) (L1 := [some (.ref 0), some (.int p0), some (.int p1), some (.ref v107)]) (st1 := [.int 0]) (M1 := mjTo Z) (fun _ _ => rfl) ?_
            simp only [Option.some.injEq] at h
            subst h
            exact pG_ret (r := some (.int 0)) rfl ⟨rfl, rfl⟩
          · rw [if_neg hc121] at h
            refine pG_iff (t := 109) rfl rfl hc121 ?_
            refine pG_many 2 (pc1 := 110) (L1 := [some (.ref 0), some (.int p0), some (.int p1), some (.ref v107)]) (st1 := [.int 1]) (M1 := mjTo Z) (fun _ _ => rfl) ?_
            simp only [Option.some.injEq] at h
            subst h
            exact pG_ret (r := some (.int 1)) rfl ⟨rfl, rfl⟩
        rw [if_neg hs120] at h
        cases h
    · rw [if_neg hc105] at h
      refine pG_iff (t := 14) rfl rfl hc105 ?_
      refine pG_many 1 (pc1 := 13) (L1 := [some (.ref 0), some (.int p0), some (.int p1), none]) (st1 := [.int ((-2000000))]) (M1 := mjTo Z) (fun _ _ => rfl) ?_
      simp only [Option.some.injEq] at h
      subst h
      exact pG_ret (r := some (.int ((-2000000)))) rfl ⟨rfl, rfl⟩
def f172_rule (p0 : Int32) (p1 : Int32) (Z : mjZt) : Option Int32 :=
  if mjIs Z.2.2.1 211 2 = true then
  mjBp (f16_hasRule Z.2.2.1 p0 Z) fun v103 =>
  if mjCmp .ne v103 0 = true then
    if (p1).toInt < 0 ∨ 2 < (p1).toInt then
      some ((-2000000))
    else if ((p1).toInt - 0).toNat = 0 then
      mjBp (f20_kindOfRule Z.2.2.1 p0 Z) fun v109 =>
      some v109
    else if ((p1).toInt - 0).toNat = 1 then
      if mjIs (Z.2.2.1 + 1) 211 8 = true then
      mjBp (f129_comparisonsOf (Z.2.2.1 + 1) p0 0 Z) fun v114 =>
      some v114
      else none
    else if ((p1).toInt - 0).toNat = 2 then
      if mjIs (Z.2.2.1 + 1) 211 8 = true then
      mjBp (f92_isTold (Z.2.2.1 + 1) p0 1 Z) fun v119 =>
      if mjCmp .eq v119 0 = true then
        some ((-1))
      else
        mjBp (f129_comparisonsOf (Z.2.2.1 + 1) p0 1 Z) fun v123 =>
        some v123
      else none
    else none
  else
    some ((-2000000))
  else none
theorem f172_rule_ok {p0 : Int32} {p1 : Int32} {Z : mjZt} {v9 : Int32} (h : f172_rule p0 p1 Z = some v9) : pG 150 0 (mjEnt [.ref 0, .int p0, .int p1] (mjML 150)) [] (mjTo Z) (fun r M1 => r = some (.int v9) ∧ M1 = mjTo Z) := by
  unfold f172_rule at h
  show pG 150 0 [some (.ref 0), some (.int p0), some (.int p1)] [] (mjTo Z) _
  refine pG_many 1 (pc1 := 1) (L1 := [some (.ref 0), some (.int p0), some (.int p1)]) (st1 := [.ref 0]) (M1 := mjTo Z) (fun _ _ => rfl) ?_
  refine pG_getR (ci := 11) (f := 2) (b := Z.2.2.1) rfl rfl rfl (by rfl) (by decide) rfl ?_
  refine pG_many 1 (pc1 := 5) (L1 := [some (.ref 0), some (.int p0), some (.int p1)]) (st1 := [.int p0, .ref Z.2.2.1]) (M1 := mjTo Z) (fun _ _ => rfl) ?_
  have hk101 : mjIs Z.2.2.1 211 2 = true := by
    by_cases q9 : mjIs Z.2.2.1 211 2 = true
    · exact q9
    · rw [if_neg q9] at h; cases h
  rw [if_pos hk101] at h
  cases hq102 : f16_hasRule Z.2.2.1 p0 Z with
  | none => rw [hq102] at h; cases h
  | some v103 =>
    rw [hq102, mjBp_some] at h
    refine pG_callV (k2 := 16) (As := [.ref Z.2.2.1, .int p0]) (rest := []) rfl rfl rfl rfl rfl (mjRcv_is hk101 (by decide)) (by decide) (by decide) (f16_hasRule_ok hq102) ?_
    rintro r9 M9 ⟨rfl, rfl⟩
    show pG 150 8 [some (.ref 0), some (.int p0), some (.int p1)] [.int v103] (mjTo Z) _
    by_cases hc105 : mjCmp .ne v103 0 = true
    · rw [if_pos hc105] at h
      refine pG_ift (t := 14) rfl rfl hc105 ?_
      refine pG_many 1 (pc1 := 15) (L1 := [some (.ref 0), some (.int p0), some (.int p1)]) (st1 := [.int p1]) (M1 := mjTo Z) (fun _ _ => rfl) ?_
      by_cases hs106 : (p1).toInt < 0 ∨ 2 < (p1).toInt
      · rw [if_pos hs106] at h
        refine pG_tso (t := 94) rfl hs106 rfl ?_
        refine pG_many 1 (pc1 := 96) (L1 := [some (.ref 0), some (.int p0), some (.int p1)]) (st1 := [.int ((-2000000))]) (M1 := mjTo Z) (fun _ _ => rfl) ?_
        simp only [Option.some.injEq] at h
        subst h
        exact pG_ret (r := some (.int ((-2000000)))) rfl ⟨rfl, rfl⟩
      rw [if_neg hs106] at h
      by_cases hs107 : ((p1).toInt - 0).toNat = 0
      · rw [if_pos hs107] at h
        refine pG_tsi (t := 40) (j := 0) (o := 25) rfl hs106 hs107 rfl rfl ?_
        refine pG_many 1 (pc1 := 41) (L1 := [some (.ref 0), some (.int p0), some (.int p1)]) (st1 := [.ref 0]) (M1 := mjTo Z) (fun _ _ => rfl) ?_
        refine pG_getR (ci := 11) (f := 2) (b := Z.2.2.1) rfl rfl rfl (by rfl) (by decide) rfl ?_
        refine pG_many 1 (pc1 := 45) (L1 := [some (.ref 0), some (.int p0), some (.int p1)]) (st1 := [.int p0, .ref Z.2.2.1]) (M1 := mjTo Z) (fun _ _ => rfl) ?_
        cases hq108 : f20_kindOfRule Z.2.2.1 p0 Z with
        | none => rw [hq108] at h; cases h
        | some v109 =>
          rw [hq108, mjBp_some] at h
          refine pG_callV (k2 := 20) (As := [.ref Z.2.2.1, .int p0]) (rest := []) rfl rfl rfl rfl rfl (mjRcv_is hk101 (by decide)) (by decide) (by decide) (f20_kindOfRule_ok hq108) ?_
          rintro r9 M9 ⟨rfl, rfl⟩
          show pG 150 48 [some (.ref 0), some (.int p0), some (.int p1)] [.int v109] (mjTo Z) _
          simp only [Option.some.injEq] at h
          subst h
          exact pG_ret (r := some (.int v109)) rfl ⟨rfl, rfl⟩
      rw [if_neg hs107] at h
      by_cases hs111 : ((p1).toInt - 0).toNat = 1
      · rw [if_pos hs111] at h
        refine pG_tsi (t := 49) (j := 1) (o := 34) rfl hs106 hs111 rfl rfl ?_
        refine pG_many 1 (pc1 := 50) (L1 := [some (.ref 0), some (.int p0), some (.int p1)]) (st1 := [.ref 0]) (M1 := mjTo Z) (fun _ _ => rfl) ?_
        refine pG_getR (ci := 11) (f := 2) (b := Z.2.2.1) rfl rfl rfl (by rfl) (by decide) rfl ?_
        refine pG_getR (ci := 2) (f := 12) (b := Z.2.2.1 + 1) rfl rfl rfl hk101 (by decide) (mjRc2_12 hk101) ?_
        refine pG_many 2 (pc1 := 58) (L1 := [some (.ref 0), some (.int p0), some (.int p1)]) (st1 := [.int 0, .int p0, .ref (Z.2.2.1 + 1)]) (M1 := mjTo Z) (fun _ _ => rfl) ?_
        have hk112 : mjIs (Z.2.2.1 + 1) 211 8 = true := by
          by_cases q9 : mjIs (Z.2.2.1 + 1) 211 8 = true
          · exact q9
          · rw [if_neg q9] at h; cases h
        rw [if_pos hk112] at h
        cases hq113 : f129_comparisonsOf (Z.2.2.1 + 1) p0 0 Z with
        | none => rw [hq113] at h; cases h
        | some v114 =>
          rw [hq113, mjBp_some] at h
          refine pG_callV (k2 := 119) (As := [.ref (Z.2.2.1 + 1), .int p0, .int 0]) (rest := []) rfl rfl rfl rfl rfl (mjRcv_is hk112 (by decide)) (by decide) (by decide) (f129_comparisonsOf_ok hq113) ?_
          rintro r9 M9 ⟨rfl, rfl⟩
          show pG 150 61 [some (.ref 0), some (.int p0), some (.int p1)] [.int v114] (mjTo Z) _
          simp only [Option.some.injEq] at h
          subst h
          exact pG_ret (r := some (.int v114)) rfl ⟨rfl, rfl⟩
      rw [if_neg hs111] at h
      by_cases hs116 : ((p1).toInt - 0).toNat = 2
      · rw [if_pos hs116] at h
        refine pG_tsi (t := 62) (j := 2) (o := 47) rfl hs106 hs116 rfl rfl ?_
        refine pG_many 1 (pc1 := 63) (L1 := [some (.ref 0), some (.int p0), some (.int p1)]) (st1 := [.ref 0]) (M1 := mjTo Z) (fun _ _ => rfl) ?_
        refine pG_getR (ci := 11) (f := 2) (b := Z.2.2.1) rfl rfl rfl (by rfl) (by decide) rfl ?_
        refine pG_getR (ci := 2) (f := 12) (b := Z.2.2.1 + 1) rfl rfl rfl hk101 (by decide) (mjRc2_12 hk101) ?_
        refine pG_many 2 (pc1 := 71) (L1 := [some (.ref 0), some (.int p0), some (.int p1)]) (st1 := [.int 1, .int p0, .ref (Z.2.2.1 + 1)]) (M1 := mjTo Z) (fun _ _ => rfl) ?_
        have hk117 : mjIs (Z.2.2.1 + 1) 211 8 = true := by
          by_cases q9 : mjIs (Z.2.2.1 + 1) 211 8 = true
          · exact q9
          · rw [if_neg q9] at h; cases h
        rw [if_pos hk117] at h
        cases hq118 : f92_isTold (Z.2.2.1 + 1) p0 1 Z with
        | none => rw [hq118] at h; cases h
        | some v119 =>
          rw [hq118, mjBp_some] at h
          refine pG_callV (k2 := 91) (As := [.ref (Z.2.2.1 + 1), .int p0, .int 1]) (rest := []) rfl rfl rfl rfl rfl (mjRcv_is hk117 (by decide)) (by decide) (by decide) (f92_isTold_ok hq118) ?_
          rintro r9 M9 ⟨rfl, rfl⟩
          show pG 150 74 [some (.ref 0), some (.int p0), some (.int p1)] [.int v119] (mjTo Z) _
          by_cases hc121 : mjCmp .eq v119 0 = true
          · rw [if_pos hc121] at h
            refine pG_ift (t := 92) rfl rfl hc121 ?_
            refine pG_many 1 (pc1 := 93) (L1 := [some (.ref 0), some (.int p0), some (.int p1)]) (st1 := [.int ((-1))]) (M1 := mjTo Z) (fun _ _ => rfl) ?_
            simp only [Option.some.injEq] at h
            subst h
            exact pG_ret (r := some (.int ((-1)))) rfl ⟨rfl, rfl⟩
          · rw [if_neg hc121] at h
            refine pG_iff (t := 92) rfl rfl hc121 ?_
            refine pG_many 1 (pc1 := 78) (L1 := [some (.ref 0), some (.int p0), some (.int p1)]) (st1 := [.ref 0]) (M1 := mjTo Z) (fun _ _ => rfl) ?_
            refine pG_getR (ci := 11) (f := 2) (b := Z.2.2.1) rfl rfl rfl (by rfl) (by decide) rfl ?_
            refine pG_getR (ci := 2) (f := 12) (b := Z.2.2.1 + 1) rfl rfl rfl hk101 (by decide) (mjRc2_12 hk101) ?_
            refine pG_many 2 (pc1 := 86) (L1 := [some (.ref 0), some (.int p0), some (.int p1)]) (st1 := [.int 1, .int p0, .ref (Z.2.2.1 + 1)]) (M1 := mjTo Z) (fun _ _ => rfl) ?_
            cases hq122 : f129_comparisonsOf (Z.2.2.1 + 1) p0 1 Z with
            | none => rw [hq122] at h; cases h
            | some v123 =>
              rw [hq122, mjBp_some] at h
              refine pG_callV (k2 := 119) (As := [.ref (Z.2.2.1 + 1), .int p0, .int 1]) (rest := []) rfl rfl rfl rfl rfl (mjRcv_is hk117 (by decide)) (by decide) (by decide) (f129_comparisonsOf_ok hq122) ?_
              rintro r9 M9 ⟨rfl, rfl⟩
              show pG 150 89 [some (.ref 0), some (.int p0), some (.int p1)] [.int v123] (mjTo Z) _
              refine pG_many 1 (pc1 := 93) (L1 := [some (.ref 0), some (.int p0), some (.int p1)]) (st1 := [.int v123]) (M1 := mjTo Z) (fun _ _ => rfl) ?_
              simp only [Option.some.injEq] at h
              subst h
              exact pG_ret (r := some (.int v123)) rfl ⟨rfl, rfl⟩
      rw [if_neg hs116] at h
      cases h
    · rw [if_neg hc105] at h
      refine pG_iff (t := 14) rfl rfl hc105 ?_
      refine pG_many 1 (pc1 := 13) (L1 := [some (.ref 0), some (.int p0), some (.int p1)]) (st1 := [.int ((-2000000))]) (M1 := mjTo Z) (fun _ _ => rfl) ?_
      simp only [Option.some.injEq] at h
      subst h
      exact pG_ret (r := some (.int ((-2000000)))) rfl ⟨rfl, rfl⟩
def f173_canHold (p0 : Int32) (p1 : Int32) (p2 : Int32) (Z : mjZt) : Option Int32 :=
  if mjIs Z.2.2.1 211 2 = true then
  mjBp (f16_hasRule Z.2.2.1 p0 Z) fun v103 =>
  if mjCmp .eq v103 0 = true then
    some 0
  else
    mjBp (f17_hasAct Z.2.2.1 p2 Z) fun v107 =>
    if mjCmp .eq v107 0 = true then
      some 0
    else
      if mjIs (Z.2.2.1 + 1) 211 8 = true then
      mjBp (f92_isTold (Z.2.2.1 + 1) p0 p1 Z) fun v112 =>
      if mjCmp .eq v112 0 = true then
        some 0
      else
        some 1
      else none
  else none
theorem f173_canHold_ok {p0 : Int32} {p1 : Int32} {p2 : Int32} {Z : mjZt} {v9 : Int32} (h : f173_canHold p0 p1 p2 Z = some v9) : pG 151 0 (mjEnt [.ref 0, .int p0, .int p1, .int p2] (mjML 151)) [] (mjTo Z) (fun r M1 => r = some (.int v9) ∧ M1 = mjTo Z) := by
  unfold f173_canHold at h
  show pG 151 0 [some (.ref 0), some (.int p0), some (.int p1), some (.int p2)] [] (mjTo Z) _
  refine pG_many 1 (pc1 := 1) (L1 := [some (.ref 0), some (.int p0), some (.int p1), some (.int p2)]) (st1 := [.ref 0]) (M1 := mjTo Z) (fun _ _ => rfl) ?_
  refine pG_getR (ci := 11) (f := 2) (b := Z.2.2.1) rfl rfl rfl (by rfl) (by decide) rfl ?_
  refine pG_many 1 (pc1 := 5) (L1 := [some (.ref 0), some (.int p0), some (.int p1), some (.int p2)]) (st1 := [.int p0, .ref Z.2.2.1]) (M1 := mjTo Z) (fun _ _ => rfl) ?_
  have hk101 : mjIs Z.2.2.1 211 2 = true := by
    by_cases q9 : mjIs Z.2.2.1 211 2 = true
    · exact q9
    · rw [if_neg q9] at h; cases h
  rw [if_pos hk101] at h
  cases hq102 : f16_hasRule Z.2.2.1 p0 Z with
  | none => rw [hq102] at h; cases h
  | some v103 =>
    rw [hq102, mjBp_some] at h
    refine pG_callV (k2 := 16) (As := [.ref Z.2.2.1, .int p0]) (rest := []) rfl rfl rfl rfl rfl (mjRcv_is hk101 (by decide)) (by decide) (by decide) (f16_hasRule_ok hq102) ?_
    rintro r9 M9 ⟨rfl, rfl⟩
    show pG 151 8 [some (.ref 0), some (.int p0), some (.int p1), some (.int p2)] [.int v103] (mjTo Z) _
    by_cases hc105 : mjCmp .eq v103 0 = true
    · rw [if_pos hc105] at h
      refine pG_ift (t := 41) rfl rfl hc105 ?_
      refine pG_many 1 (pc1 := 42) (L1 := [some (.ref 0), some (.int p0), some (.int p1), some (.int p2)]) (st1 := [.int 0]) (M1 := mjTo Z) (fun _ _ => rfl) ?_
      simp only [Option.some.injEq] at h
      subst h
      exact pG_ret (r := some (.int 0)) rfl ⟨rfl, rfl⟩
    · rw [if_neg hc105] at h
      refine pG_iff (t := 41) rfl rfl hc105 ?_
      refine pG_many 1 (pc1 := 12) (L1 := [some (.ref 0), some (.int p0), some (.int p1), some (.int p2)]) (st1 := [.ref 0]) (M1 := mjTo Z) (fun _ _ => rfl) ?_
      refine pG_getR (ci := 11) (f := 2) (b := Z.2.2.1) rfl rfl rfl (by rfl) (by decide) rfl ?_
      refine pG_many 1 (pc1 := 16) (L1 := [some (.ref 0), some (.int p0), some (.int p1), some (.int p2)]) (st1 := [.int p2, .ref Z.2.2.1]) (M1 := mjTo Z) (fun _ _ => rfl) ?_
      cases hq106 : f17_hasAct Z.2.2.1 p2 Z with
      | none => rw [hq106] at h; cases h
      | some v107 =>
        rw [hq106, mjBp_some] at h
        refine pG_callV (k2 := 17) (As := [.ref Z.2.2.1, .int p2]) (rest := []) rfl rfl rfl rfl rfl (mjRcv_is hk101 (by decide)) (by decide) (by decide) (f17_hasAct_ok hq106) ?_
        rintro r9 M9 ⟨rfl, rfl⟩
        show pG 151 19 [some (.ref 0), some (.int p0), some (.int p1), some (.int p2)] [.int v107] (mjTo Z) _
        by_cases hc109 : mjCmp .eq v107 0 = true
        · rw [if_pos hc109] at h
          refine pG_ift (t := 41) rfl rfl hc109 ?_
          refine pG_many 1 (pc1 := 42) (L1 := [some (.ref 0), some (.int p0), some (.int p1), some (.int p2)]) (st1 := [.int 0]) (M1 := mjTo Z) (fun _ _ => rfl) ?_
          simp only [Option.some.injEq] at h
          subst h
          exact pG_ret (r := some (.int 0)) rfl ⟨rfl, rfl⟩
        · rw [if_neg hc109] at h
          refine pG_iff (t := 41) rfl rfl hc109 ?_
          refine pG_many 1 (pc1 := 23) (L1 := [some (.ref 0), some (.int p0), some (.int p1), some (.int p2)]) (st1 := [.ref 0]) (M1 := mjTo Z) (fun _ _ => rfl) ?_
          refine pG_getR (ci := 11) (f := 2) (b := Z.2.2.1) rfl rfl rfl (by rfl) (by decide) rfl ?_
          refine pG_getR (ci := 2) (f := 12) (b := Z.2.2.1 + 1) rfl rfl rfl hk101 (by decide) (mjRc2_12 hk101) ?_
          refine pG_many 2 (pc1 := 31) (L1 := [some (.ref 0), some (.int p0), some (.int p1), some (.int p2)]) (st1 := [.int p1, .int p0, .ref (Z.2.2.1 + 1)]) (M1 := mjTo Z) (fun _ _ => rfl) ?_
          have hk110 : mjIs (Z.2.2.1 + 1) 211 8 = true := by
            by_cases q9 : mjIs (Z.2.2.1 + 1) 211 8 = true
            · exact q9
            · rw [if_neg q9] at h; cases h
          rw [if_pos hk110] at h
          cases hq111 : f92_isTold (Z.2.2.1 + 1) p0 p1 Z with
          | none => rw [hq111] at h; cases h
          | some v112 =>
            rw [hq111, mjBp_some] at h
            refine pG_callV (k2 := 91) (As := [.ref (Z.2.2.1 + 1), .int p0, .int p1]) (rest := []) rfl rfl rfl rfl rfl (mjRcv_is hk110 (by decide)) (by decide) (by decide) (f92_isTold_ok hq111) ?_
            rintro r9 M9 ⟨rfl, rfl⟩
            show pG 151 34 [some (.ref 0), some (.int p0), some (.int p1), some (.int p2)] [.int v112] (mjTo Z) _
            by_cases hc114 : mjCmp .eq v112 0 = true
            · rw [if_pos hc114] at h
              refine pG_ift (t := 41) rfl rfl hc114 ?_
              refine pG_many 1 (pc1 := 42) (L1 := [some (.ref 0), some (.int p0), some (.int p1), some (.int p2)]) (st1 := [.int 0]) (M1 := mjTo Z) (fun _ _ => rfl) ?_
              simp only [Option.some.injEq] at h
              subst h
              exact pG_ret (r := some (.int 0)) rfl ⟨rfl, rfl⟩
            · rw [if_neg hc114] at h
              refine pG_iff (t := 41) rfl rfl hc114 ?_
              refine pG_many 2 (pc1 := 42) (L1 := [some (.ref 0), some (.int p0), some (.int p1), some (.int p2)]) (st1 := [.int 1]) (M1 := mjTo Z) (fun _ _ => rfl) ?_
              simp only [Option.some.injEq] at h
              subst h
              exact pG_ret (r := some (.int 1)) rfl ⟨rfl, rfl⟩
def f174_holds (p0 : Int32) (p1 : Int32) (p2 : Int32) (Z : mjZt) : Option (Int32 × mjZt) :=
  mjBp (f173_canHold p0 p1 p2 Z) fun v102 =>
  if mjCmp .ne v102 0 = true then
    mjBd (f75_lookAt Z.2.2.1 p2 Z) fun _ Z107 =>
    if mjIs Z107.2.2.1 211 2 = true then
    mjBd (f85_isSo (Z107.2.2.1 + 1) p0 p1 Z107) fun v110 Z111 =>
    if mjCmp .eq v110 0 = true then
      some (0, Z111)
    else
      some (1, Z111)
    else none
  else
    some ((-2000000), Z)
theorem f174_holds_ok {p0 : Int32} {p1 : Int32} {p2 : Int32} {Z : mjZt} {v9 : Int32} {Z9 : mjZt} (h : f174_holds p0 p1 p2 Z = some (v9, Z9)) : pG 152 0 (mjEnt [.ref 0, .int p0, .int p1, .int p2] (mjML 152)) [] (mjTo Z) (fun r M1 => r = some (.int v9) ∧ M1 = mjTo Z9) := by
  unfold f174_holds at h
  show pG 152 0 [some (.ref 0), some (.int p0), some (.int p1), some (.int p2)] [] (mjTo Z) _
  refine pG_many 4 (pc1 := 4) (L1 := [some (.ref 0), some (.int p0), some (.int p1), some (.int p2)]) (st1 := [.int p2, .int p1, .int p0, .ref 0]) (M1 := mjTo Z) (fun _ _ => rfl) ?_
  cases hq101 : f173_canHold p0 p1 p2 Z with
  | none => rw [hq101] at h; cases h
  | some v102 =>
    rw [hq101, mjBp_some] at h
    refine pG_callV (k2 := 151) (As := [.ref 0, .int p0, .int p1, .int p2]) (rest := []) rfl rfl rfl rfl rfl (by rfl) (by decide) (by decide) (f173_canHold_ok hq101) ?_
    rintro r9 M9 ⟨rfl, rfl⟩
    show pG 152 7 [some (.ref 0), some (.int p0), some (.int p1), some (.int p2)] [.int v102] (mjTo Z) _
    by_cases hc104 : mjCmp .ne v102 0 = true
    · rw [if_pos hc104] at h
      refine pG_ift (t := 13) rfl rfl hc104 ?_
      refine pG_many 1 (pc1 := 14) (L1 := [some (.ref 0), some (.int p0), some (.int p1), some (.int p2)]) (st1 := [.ref 0]) (M1 := mjTo Z) (fun _ _ => rfl) ?_
      refine pG_getR (ci := 11) (f := 6) (b := 190) rfl rfl rfl (by rfl) (by decide) rfl ?_
      refine pG_many 1 (pc1 := 18) (L1 := [some (.ref 0), some (.int p0), some (.int p1), some (.int p2)]) (st1 := [.ref 0, .ref 190]) (M1 := mjTo Z) (fun _ _ => rfl) ?_
      refine pG_getR (ci := 11) (f := 2) (b := Z.2.2.1) rfl rfl rfl (by rfl) (by decide) rfl ?_
      refine pG_many 1 (pc1 := 22) (L1 := [some (.ref 0), some (.int p0), some (.int p1), some (.int p2)]) (st1 := [.int p2, .ref Z.2.2.1, .ref 190]) (M1 := mjTo Z) (fun _ _ => rfl) ?_
      cases hq105 : f75_lookAt Z.2.2.1 p2 Z with
      | none => rw [hq105] at h; cases h
      | some w =>
        obtain ⟨v106, Z107⟩ := w
        rw [hq105, mjBd_some] at h
        refine pG_callV (k2 := 74) (As := [.ref 190, .ref Z.2.2.1, .int p2]) (rest := []) rfl rfl rfl rfl rfl (by rfl) (by decide) (by decide) (f75_lookAt_ok hq105) ?_
        rintro r9 M9 ⟨rfl, rfl⟩
        show pG 152 25 [some (.ref 0), some (.int p0), some (.int p1), some (.int p2)] [] (mjTo Z107) _
        refine pG_many 1 (pc1 := 26) (L1 := [some (.ref 0), some (.int p0), some (.int p1), some (.int p2)]) (st1 := [.ref 0]) (M1 := mjTo Z107) (fun _ _ => rfl) ?_
        refine pG_getR (ci := 11) (f := 6) (b := 190) rfl rfl rfl (by rfl) (by decide) rfl ?_
        refine pG_many 1 (pc1 := 30) (L1 := [some (.ref 0), some (.int p0), some (.int p1), some (.int p2)]) (st1 := [.ref 0, .ref 190]) (M1 := mjTo Z107) (fun _ _ => rfl) ?_
        refine pG_getR (ci := 11) (f := 2) (b := Z107.2.2.1) rfl rfl rfl (by rfl) (by decide) rfl ?_
        have hk108 : mjIs Z107.2.2.1 211 2 = true := by
          by_cases q9 : mjIs Z107.2.2.1 211 2 = true
          · exact q9
          · rw [if_neg q9] at h; cases h
        rw [if_pos hk108] at h
        refine pG_getR (ci := 2) (f := 12) (b := Z107.2.2.1 + 1) rfl rfl rfl hk108 (by decide) (mjRc2_12 hk108) ?_
        refine pG_many 2 (pc1 := 38) (L1 := [some (.ref 0), some (.int p0), some (.int p1), some (.int p2)]) (st1 := [.int p1, .int p0, .ref (Z107.2.2.1 + 1), .ref 190]) (M1 := mjTo Z107) (fun _ _ => rfl) ?_
        cases hq109 : f85_isSo (Z107.2.2.1 + 1) p0 p1 Z107 with
        | none => rw [hq109] at h; cases h
        | some w =>
          obtain ⟨v110, Z111⟩ := w
          rw [hq109, mjBd_some] at h
          refine pG_callV (k2 := 84) (As := [.ref 190, .ref (Z107.2.2.1 + 1), .int p0, .int p1]) (rest := []) rfl rfl rfl rfl rfl (by rfl) (by decide) (by decide) (f85_isSo_ok hq109) ?_
          rintro r9 M9 ⟨rfl, rfl⟩
          show pG 152 41 [some (.ref 0), some (.int p0), some (.int p1), some (.int p2)] [.int v110] (mjTo Z111) _
          by_cases hc112 : mjCmp .eq v110 0 = true
          · rw [if_pos hc112] at h
            refine pG_ift (t := 48) rfl rfl hc112 ?_
            refine pG_many 1 (pc1 := 49) (L1 := [some (.ref 0), some (.int p0), some (.int p1), some (.int p2)]) (st1 := [.int 0]) (M1 := mjTo Z111) (fun _ _ => rfl) ?_
            simp only [Option.some.injEq, Prod.mk.injEq] at h
            obtain ⟨rfl, rfl⟩ := h
            exact pG_ret (r := some (.int 0)) rfl ⟨rfl, rfl⟩
          · rw [if_neg hc112] at h
            refine pG_iff (t := 48) rfl rfl hc112 ?_
            refine pG_many 2 (pc1 := 49) (L1 := [some (.ref 0), some (.int p0), some (.int p1), some (.int p2)]) (st1 := [.int 1]) (M1 := mjTo Z111) (fun _ _ => rfl) ?_
            simp only [Option.some.injEq, Prod.mk.injEq] at h
            obtain ⟨rfl, rfl⟩ := h
            exact pG_ret (r := some (.int 1)) rfl ⟨rfl, rfl⟩
    · rw [if_neg hc104] at h
      refine pG_iff (t := 13) rfl rfl hc104 ?_
      refine pG_many 1 (pc1 := 12) (L1 := [some (.ref 0), some (.int p0), some (.int p1), some (.int p2)]) (st1 := [.int ((-2000000))]) (M1 := mjTo Z) (fun _ _ => rfl) ?_
      simp only [Option.some.injEq, Prod.mk.injEq] at h
      obtain ⟨rfl, rfl⟩ := h
      exact pG_ret (r := some (.int ((-2000000)))) rfl ⟨rfl, rfl⟩
def f175_why (p0 : Int32) (p1 : Int32) (p2 : Int32) (p3 : Int32) (Z : mjZt) : Option (Int32 × mjZt) :=
  mjBp (f173_canHold p0 p1 p2 Z) fun v102 =>
  if mjCmp .ne v102 0 = true then
    mjBd (f75_lookAt Z.2.2.1 p2 Z) fun _ Z107 =>
    if mjIs Z107.2.2.1 211 2 = true then
    mjBd (f85_isSo (Z107.2.2.1 + 1) p0 p1 Z107) fun v110 Z111 =>
    if mjIs Z111.2.2.1 211 2 = true then
    mjBd (f91_reason (Z111.2.2.1 + 1) p0 p1 p3 Z111) fun v114 Z115 =>
    some (v114, Z115)
    else none
    else none
  else
    some ((-2000000), Z)
theorem f175_why_ok {p0 : Int32} {p1 : Int32} {p2 : Int32} {p3 : Int32} {Z : mjZt} {v9 : Int32} {Z9 : mjZt} (h : f175_why p0 p1 p2 p3 Z = some (v9, Z9)) : pG 153 0 (mjEnt [.ref 0, .int p0, .int p1, .int p2, .int p3] (mjML 153)) [] (mjTo Z) (fun r M1 => r = some (.int v9) ∧ M1 = mjTo Z9) := by
  unfold f175_why at h
  show pG 153 0 [some (.ref 0), some (.int p0), some (.int p1), some (.int p2), some (.int p3)] [] (mjTo Z) _
  refine pG_many 4 (pc1 := 4) (L1 := [some (.ref 0), some (.int p0), some (.int p1), some (.int p2), some (.int p3)]) (st1 := [.int p2, .int p1, .int p0, .ref 0]) (M1 := mjTo Z) (fun _ _ => rfl) ?_
  cases hq101 : f173_canHold p0 p1 p2 Z with
  | none => rw [hq101] at h; cases h
  | some v102 =>
    rw [hq101, mjBp_some] at h
    refine pG_callV (k2 := 151) (As := [.ref 0, .int p0, .int p1, .int p2]) (rest := []) rfl rfl rfl rfl rfl (by rfl) (by decide) (by decide) (f173_canHold_ok hq101) ?_
    rintro r9 M9 ⟨rfl, rfl⟩
    show pG 153 7 [some (.ref 0), some (.int p0), some (.int p1), some (.int p2), some (.int p3)] [.int v102] (mjTo Z) _
    by_cases hc104 : mjCmp .ne v102 0 = true
    · rw [if_pos hc104] at h
      refine pG_ift (t := 13) rfl rfl hc104 ?_
      refine pG_many 1 (pc1 := 14) (L1 := [some (.ref 0), some (.int p0), some (.int p1), some (.int p2), some (.int p3)]) (st1 := [.ref 0]) (M1 := mjTo Z) (fun _ _ => rfl) ?_
      refine pG_getR (ci := 11) (f := 6) (b := 190) rfl rfl rfl (by rfl) (by decide) rfl ?_
      refine pG_many 1 (pc1 := 18) (L1 := [some (.ref 0), some (.int p0), some (.int p1), some (.int p2), some (.int p3)]) (st1 := [.ref 0, .ref 190]) (M1 := mjTo Z) (fun _ _ => rfl) ?_
      refine pG_getR (ci := 11) (f := 2) (b := Z.2.2.1) rfl rfl rfl (by rfl) (by decide) rfl ?_
      refine pG_many 1 (pc1 := 22) (L1 := [some (.ref 0), some (.int p0), some (.int p1), some (.int p2), some (.int p3)]) (st1 := [.int p2, .ref Z.2.2.1, .ref 190]) (M1 := mjTo Z) (fun _ _ => rfl) ?_
      cases hq105 : f75_lookAt Z.2.2.1 p2 Z with
      | none => rw [hq105] at h; cases h
      | some w =>
        obtain ⟨v106, Z107⟩ := w
        rw [hq105, mjBd_some] at h
        refine pG_callV (k2 := 74) (As := [.ref 190, .ref Z.2.2.1, .int p2]) (rest := []) rfl rfl rfl rfl rfl (by rfl) (by decide) (by decide) (f75_lookAt_ok hq105) ?_
        rintro r9 M9 ⟨rfl, rfl⟩
        show pG 153 25 [some (.ref 0), some (.int p0), some (.int p1), some (.int p2), some (.int p3)] [] (mjTo Z107) _
        refine pG_many 1 (pc1 := 26) (L1 := [some (.ref 0), some (.int p0), some (.int p1), some (.int p2), some (.int p3)]) (st1 := [.ref 0]) (M1 := mjTo Z107) (fun _ _ => rfl) ?_
        refine pG_getR (ci := 11) (f := 6) (b := 190) rfl rfl rfl (by rfl) (by decide) rfl ?_
        refine pG_many 1 (pc1 := 30) (L1 := [some (.ref 0), some (.int p0), some (.int p1), some (.int p2), some (.int p3)]) (st1 := [.ref 0, .ref 190]) (M1 := mjTo Z107) (fun _ _ => rfl) ?_
        refine pG_getR (ci := 11) (f := 2) (b := Z107.2.2.1) rfl rfl rfl (by rfl) (by decide) rfl ?_
        have hk108 : mjIs Z107.2.2.1 211 2 = true := by
          by_cases q9 : mjIs Z107.2.2.1 211 2 = true
          · exact q9
          · rw [if_neg q9] at h; cases h
        rw [if_pos hk108] at h
        refine pG_getR (ci := 2) (f := 12) (b := Z107.2.2.1 + 1) rfl rfl rfl hk108 (by decide) (mjRc2_12 hk108) ?_
        refine pG_many 2 (pc1 := 38) (L1 := [some (.ref 0), some (.int p0), some (.int p1), some (.int p2), some (.int p3)]) (st1 := [.int p1, .int p0, .ref (Z107.2.2.1 + 1), .ref 190]) (M1 := mjTo Z107) (fun _ _ => rfl) ?_
        cases hq109 : f85_isSo (Z107.2.2.1 + 1) p0 p1 Z107 with
        | none => rw [hq109] at h; cases h
        | some w =>
          obtain ⟨v110, Z111⟩ := w
          rw [hq109, mjBd_some] at h
          refine pG_callV (k2 := 84) (As := [.ref 190, .ref (Z107.2.2.1 + 1), .int p0, .int p1]) (rest := []) rfl rfl rfl rfl rfl (by rfl) (by decide) (by decide) (f85_isSo_ok hq109) ?_
          rintro r9 M9 ⟨rfl, rfl⟩
          show pG 153 41 [some (.ref 0), some (.int p0), some (.int p1), some (.int p2), some (.int p3)] [.int v110] (mjTo Z111) _
          refine pG_many 2 (pc1 := 43) (L1 := [some (.ref 0), some (.int p0), some (.int p1), some (.int p2), some (.int p3)]) (st1 := [.ref 0]) (M1 := mjTo Z111) (fun _ _ => rfl) ?_
          refine pG_getR (ci := 11) (f := 6) (b := 190) rfl rfl rfl (by rfl) (by decide) rfl ?_
          refine pG_many 1 (pc1 := 47) (L1 := [some (.ref 0), some (.int p0), some (.int p1), some (.int p2), some (.int p3)]) (st1 := [.ref 0, .ref 190]) (M1 := mjTo Z111) (fun _ _ => rfl) ?_
          refine pG_getR (ci := 11) (f := 2) (b := Z111.2.2.1) rfl rfl rfl (by rfl) (by decide) rfl ?_
          have hk112 : mjIs Z111.2.2.1 211 2 = true := by
            by_cases q9 : mjIs Z111.2.2.1 211 2 = true
            · exact q9
            · rw [if_neg q9] at h; cases h
          rw [if_pos hk112] at h
          refine pG_getR (ci := 2) (f := 12) (b := Z111.2.2.1 + 1) rfl rfl rfl hk112 (by decide) (mjRc2_12 hk112) ?_
          refine pG_many 3 (pc1 := 57) (L1 := [some (.ref 0), some (.int p0), some (.int p1), some (.int p2), some (.int p3)]) (st1 := [.int p3, .int p1, .int p0, .ref (Z111.2.2.1 + 1), .ref 190]) (M1 := mjTo Z111) (fun _ _ => rfl) ?_
          cases hq113 : f91_reason (Z111.2.2.1 + 1) p0 p1 p3 Z111 with
          | none => rw [hq113] at h; cases h
          | some w =>
            obtain ⟨v114, Z115⟩ := w
            rw [hq113, mjBd_some] at h
            refine pG_callV (k2 := 90) (As := [.ref 190, .ref (Z111.2.2.1 + 1), .int p0, .int p1, .int p3]) (rest := []) rfl rfl rfl rfl rfl (by rfl) (by decide) (by decide) (f91_reason_ok hq113) ?_
            rintro r9 M9 ⟨rfl, rfl⟩
            show pG 153 60 [some (.ref 0), some (.int p0), some (.int p1), some (.int p2), some (.int p3)] [.int v114] (mjTo Z115) _
            simp only [Option.some.injEq, Prod.mk.injEq] at h
            obtain ⟨rfl, rfl⟩ := h
            exact pG_ret (r := some (.int v114)) rfl ⟨rfl, rfl⟩
    · rw [if_neg hc104] at h
      refine pG_iff (t := 13) rfl rfl hc104 ?_
      refine pG_many 1 (pc1 := 12) (L1 := [some (.ref 0), some (.int p0), some (.int p1), some (.int p2), some (.int p3)]) (st1 := [.int ((-2000000))]) (M1 := mjTo Z) (fun _ _ => rfl) ?_
      simp only [Option.some.injEq, Prod.mk.injEq] at h
      obtain ⟨rfl, rfl⟩ := h
      exact pG_ret (r := some (.int ((-2000000)))) rfl ⟨rfl, rfl⟩
def f176_struckBy (p0 : Int32) (p1 : Int32) (Z : mjZt) : Option Int32 :=
  if mjIs Z.2.2.1 211 2 = true then
  mjBp (f17_hasAct Z.2.2.1 p0 Z) fun v103 =>
  if mjCmp .eq v103 0 = true then
    some ((-2000000))
  else
    mjBp (f16_hasRule Z.2.2.1 p1 Z) fun v107 =>
    if mjCmp .ne v107 0 = true then
      mjBp (f142_rulesStriking 199 p0 Z) fun v111 =>
      some (((v111 : Int32) >>> ((p1 : Int32) &&& 31)) &&& 1)
    else
      some ((-2000000))
  else none
theorem f176_struckBy_ok {p0 : Int32} {p1 : Int32} {Z : mjZt} {v9 : Int32} (h : f176_struckBy p0 p1 Z = some v9) : pG 154 0 (mjEnt [.ref 0, .int p0, .int p1] (mjML 154)) [] (mjTo Z) (fun r M1 => r = some (.int v9) ∧ M1 = mjTo Z) := by
  unfold f176_struckBy at h
  show pG 154 0 [some (.ref 0), some (.int p0), some (.int p1)] [] (mjTo Z) _
  refine pG_many 1 (pc1 := 1) (L1 := [some (.ref 0), some (.int p0), some (.int p1)]) (st1 := [.ref 0]) (M1 := mjTo Z) (fun _ _ => rfl) ?_
  refine pG_getR (ci := 11) (f := 2) (b := Z.2.2.1) rfl rfl rfl (by rfl) (by decide) rfl ?_
  refine pG_many 1 (pc1 := 5) (L1 := [some (.ref 0), some (.int p0), some (.int p1)]) (st1 := [.int p0, .ref Z.2.2.1]) (M1 := mjTo Z) (fun _ _ => rfl) ?_
  have hk101 : mjIs Z.2.2.1 211 2 = true := by
    by_cases q9 : mjIs Z.2.2.1 211 2 = true
    · exact q9
    · rw [if_neg q9] at h; cases h
  rw [if_pos hk101] at h
  cases hq102 : f17_hasAct Z.2.2.1 p0 Z with
  | none => rw [hq102] at h; cases h
  | some v103 =>
    rw [hq102, mjBp_some] at h
    refine pG_callV (k2 := 17) (As := [.ref Z.2.2.1, .int p0]) (rest := []) rfl rfl rfl rfl rfl (mjRcv_is hk101 (by decide)) (by decide) (by decide) (f17_hasAct_ok hq102) ?_
    rintro r9 M9 ⟨rfl, rfl⟩
    show pG 154 8 [some (.ref 0), some (.int p0), some (.int p1)] [.int v103] (mjTo Z) _
    by_cases hc105 : mjCmp .eq v103 0 = true
    · rw [if_pos hc105] at h
      refine pG_ift (t := 22) rfl rfl hc105 ?_
      refine pG_many 1 (pc1 := 24) (L1 := [some (.ref 0), some (.int p0), some (.int p1)]) (st1 := [.int ((-2000000))]) (M1 := mjTo Z) (fun _ _ => rfl) ?_
      simp only [Option.some.injEq] at h
      subst h
      exact pG_ret (r := some (.int ((-2000000)))) rfl ⟨rfl, rfl⟩
    · rw [if_neg hc105] at h
      refine pG_iff (t := 22) rfl rfl hc105 ?_
      refine pG_many 1 (pc1 := 12) (L1 := [some (.ref 0), some (.int p0), some (.int p1)]) (st1 := [.ref 0]) (M1 := mjTo Z) (fun _ _ => rfl) ?_
      refine pG_getR (ci := 11) (f := 2) (b := Z.2.2.1) rfl rfl rfl (by rfl) (by decide) rfl ?_
      refine pG_many 1 (pc1 := 16) (L1 := [some (.ref 0), some (.int p0), some (.int p1)]) (st1 := [.int p1, .ref Z.2.2.1]) (M1 := mjTo Z) (fun _ _ => rfl) ?_
      cases hq106 : f16_hasRule Z.2.2.1 p1 Z with
      | none => rw [hq106] at h; cases h
      | some v107 =>
        rw [hq106, mjBp_some] at h
        refine pG_callV (k2 := 16) (As := [.ref Z.2.2.1, .int p1]) (rest := []) rfl rfl rfl rfl rfl (mjRcv_is hk101 (by decide)) (by decide) (by decide) (f16_hasRule_ok hq106) ?_
        rintro r9 M9 ⟨rfl, rfl⟩
        show pG 154 19 [some (.ref 0), some (.int p0), some (.int p1)] [.int v107] (mjTo Z) _
        by_cases hc109 : mjCmp .ne v107 0 = true
        · rw [if_pos hc109] at h
          refine pG_ift (t := 25) rfl rfl hc109 ?_
          refine pG_many 1 (pc1 := 26) (L1 := [some (.ref 0), some (.int p0), some (.int p1)]) (st1 := [.ref 0]) (M1 := mjTo Z) (fun _ _ => rfl) ?_
          refine pG_getR (ci := 11) (f := 7) (b := 199) rfl rfl rfl (by rfl) (by decide) rfl ?_
          refine pG_many 1 (pc1 := 30) (L1 := [some (.ref 0), some (.int p0), some (.int p1)]) (st1 := [.int p0, .ref 199]) (M1 := mjTo Z) (fun _ _ => rfl) ?_
          cases hq110 : f142_rulesStriking 199 p0 Z with
          | none => rw [hq110] at h; cases h
          | some v111 =>
            rw [hq110, mjBp_some] at h
            refine pG_callV (k2 := 130) (As := [.ref 199, .int p0]) (rest := []) rfl rfl rfl rfl rfl (by rfl) (by decide) (by decide) (f142_rulesStriking_ok hq110) ?_
            rintro r9 M9 ⟨rfl, rfl⟩
            show pG 154 33 [some (.ref 0), some (.int p0), some (.int p1)] [.int v111] (mjTo Z) _
            refine pG_many 4 (pc1 := 37) (L1 := [some (.ref 0), some (.int p0), some (.int p1)]) (st1 := [.int (((v111 : Int32) >>> ((p1 : Int32) &&& 31)) &&& 1)]) (M1 := mjTo Z) (fun _ _ => rfl) ?_
            simp only [Option.some.injEq] at h
            subst h
            exact pG_ret (r := some (.int (((v111 : Int32) >>> ((p1 : Int32) &&& 31)) &&& 1))) rfl ⟨rfl, rfl⟩
        · rw [if_neg hc109] at h
          refine pG_iff (t := 25) rfl rfl hc109 ?_
          refine pG_many 1 (pc1 := 24) (L1 := [some (.ref 0), some (.int p0), some (.int p1)]) (st1 := [.int ((-2000000))]) (M1 := mjTo Z) (fun _ _ => rfl) ?_
          simp only [Option.some.injEq] at h
          subst h
          exact pG_ret (r := some (.int ((-2000000)))) rfl ⟨rfl, rfl⟩
def f179_struck (p0 : Int32) (p1 : Int32) (Z : mjZt) : Option Int32 :=
  if mjIs Z.2.2.1 211 2 = true then
  mjBp (f7_hasTeam Z.2.2.1 p0 Z) fun v103 =>
  if mjCmp .ne v103 0 = true then
    mjBp (f144_firstStruckAct 199 Z.2.2.1 p0 Z) fun v107 =>
    if (p1).toInt < 0 ∨ 2 < (p1).toInt then
      some ((-1))
    else if ((p1).toInt - 0).toNat = 0 then
      some v107
    else if ((p1).toInt - 0).toNat = 1 then
      mjBp (f143_firstRuleStriking 199 v107 Z) fun v113 =>
      some v113
    else if ((p1).toInt - 0).toNat = 2 then
      mjBp (f145_struckActs 199 Z.2.2.1 p0 Z) fun v117 =>
      some v117
    else none
  else
    some ((-1))
  else none
theorem f179_struck_ok {p0 : Int32} {p1 : Int32} {Z : mjZt} {v9 : Int32} (h : f179_struck p0 p1 Z = some v9) : pG 155 0 (mjEnt [.ref 0, .int p0, .int p1] (mjML 155)) [] (mjTo Z) (fun r M1 => r = some (.int v9) ∧ M1 = mjTo Z) := by
  unfold f179_struck at h
  show pG 155 0 [some (.ref 0), some (.int p0), some (.int p1), none] [] (mjTo Z) _
  refine pG_many 1 (pc1 := 1) (L1 := [some (.ref 0), some (.int p0), some (.int p1), none]) (st1 := [.ref 0]) (M1 := mjTo Z) (fun _ _ => rfl) ?_
  refine pG_getR (ci := 11) (f := 2) (b := Z.2.2.1) rfl rfl rfl (by rfl) (by decide) rfl ?_
  refine pG_many 1 (pc1 := 5) (L1 := [some (.ref 0), some (.int p0), some (.int p1), none]) (st1 := [.int p0, .ref Z.2.2.1]) (M1 := mjTo Z) (fun _ _ => rfl) ?_
  have hk101 : mjIs Z.2.2.1 211 2 = true := by
    by_cases q9 : mjIs Z.2.2.1 211 2 = true
    · exact q9
    · rw [if_neg q9] at h; cases h
  rw [if_pos hk101] at h
  cases hq102 : f7_hasTeam Z.2.2.1 p0 Z with
  | none => rw [hq102] at h; cases h
  | some v103 =>
    rw [hq102, mjBp_some] at h
    refine pG_callV (k2 := 7) (As := [.ref Z.2.2.1, .int p0]) (rest := []) rfl rfl rfl rfl rfl (mjRcv_is hk101 (by decide)) (by decide) (by decide) (f7_hasTeam_ok hq102) ?_
    rintro r9 M9 ⟨rfl, rfl⟩
    show pG 155 8 [some (.ref 0), some (.int p0), some (.int p1), none] [.int v103] (mjTo Z) _
    by_cases hc105 : mjCmp .ne v103 0 = true
    · rw [if_pos hc105] at h
      refine pG_ift (t := 13) rfl rfl hc105 ?_
      refine pG_many 1 (pc1 := 14) (L1 := [some (.ref 0), some (.int p0), some (.int p1), none]) (st1 := [.ref 0]) (M1 := mjTo Z) (fun _ _ => rfl) ?_
      refine pG_getR (ci := 11) (f := 7) (b := 199) rfl rfl rfl (by rfl) (by decide) rfl ?_
      refine pG_many 1 (pc1 := 18) (L1 := [some (.ref 0), some (.int p0), some (.int p1), none]) (st1 := [.ref 0, .ref 199]) (M1 := mjTo Z) (fun _ _ => rfl) ?_
      refine pG_getR (ci := 11) (f := 2) (b := Z.2.2.1) rfl rfl rfl (by rfl) (by decide) rfl ?_
      refine pG_many 1 (pc1 := 22) (L1 := [some (.ref 0), some (.int p0), some (.int p1), none]) (st1 := [.int p0, .ref Z.2.2.1, .ref 199]) (M1 := mjTo Z) (fun _ _ => rfl) ?_
      cases hq106 : f144_firstStruckAct 199 Z.2.2.1 p0 Z with
      | none => rw [hq106] at h; cases h
      | some v107 =>
        rw [hq106, mjBp_some] at h
        refine pG_callV (k2 := 132) (As := [.ref 199, .ref Z.2.2.1, .int p0]) (rest := []) rfl rfl rfl rfl rfl (by rfl) (by decide) (by decide) (f144_firstStruckAct_ok hq106) ?_
        rintro r9 M9 ⟨rfl, rfl⟩
        show pG 155 25 [some (.ref 0), some (.int p0), some (.int p1), none] [.int v107] (mjTo Z) _
        refine pG_many 2 (pc1 := 27) (L1 := [some (.ref 0), some (.int p0), some (.int p1), some (.int v107)]) (st1 := [.int p1]) (M1 := mjTo Z) (fun _ _ => rfl) ?_
        by_cases hs109 : (p1).toInt < 0 ∨ 2 < (p1).toInt
        · rw [if_pos hs109] at h
          refine pG_tso (t := 76) rfl hs109 rfl ?_
          refine pG_many 1 (pc1 := 77) (L1 := [some (.ref 0), some (.int p0), some (.int p1), some (.int v107)]) (st1 := [.int ((-1))]) (M1 := mjTo Z) (fun _ _ => rfl) ?_
          simp only [Option.some.injEq] at h
          subst h
          exact pG_ret (r := some (.int ((-1)))) rfl ⟨rfl, rfl⟩
        rw [if_neg hs109] at h
        by_cases hs110 : ((p1).toInt - 0).toNat = 0
        · rw [if_pos hs110] at h
          refine pG_tsi (t := 52) (j := 0) (o := 25) rfl hs109 hs110 rfl rfl ?_
          refine pG_many 1 (pc1 := 53) (L1 := [some (.ref 0), some (.int p0), some (.int p1), some (.int v107)]) (st1 := [.int v107]) (M1 := mjTo Z) (fun _ _ => rfl) ?_
          simp only [Option.some.injEq] at h
          subst h
          exact pG_ret (r := some (.int v107)) rfl ⟨rfl, rfl⟩
        rw [if_neg hs110] at h
        by_cases hs111 : ((p1).toInt - 0).toNat = 1
        · rw [if_pos hs111] at h
          refine pG_tsi (t := 54) (j := 1) (o := 27) rfl hs109 hs111 rfl rfl ?_
          refine pG_many 1 (pc1 := 55) (L1 := [some (.ref 0), some (.int p0), some (.int p1), some (.int v107)]) (st1 := [.ref 0]) (M1 := mjTo Z) (fun _ _ => rfl) ?_
          refine pG_getR (ci := 11) (f := 7) (b := 199) rfl rfl rfl (by rfl) (by decide) rfl ?_
          refine pG_many 1 (pc1 := 59) (L1 := [some (.ref 0), some (.int p0), some (.int p1), some (.int v107)]) (st1 := [.int v107, .ref 199]) (M1 := mjTo Z) (fun _ _ => rfl) ?_
          cases hq112 : f143_firstRuleStriking 199 v107 Z with
          | none => rw [hq112] at h; cases h
          | some v113 =>
            rw [hq112, mjBp_some] at h
            refine pG_callV (k2 := 131) (As := [.ref 199, .int v107]) (rest := []) rfl rfl rfl rfl rfl (by rfl) (by decide) (by decide) (f143_firstRuleStriking_ok hq112) ?_
            rintro r9 M9 ⟨rfl, rfl⟩
            show pG 155 62 [some (.ref 0), some (.int p0), some (.int p1), some (.int v107)] [.int v113] (mjTo Z) _
            simp only [Option.some.injEq] at h
            subst h
            exact pG_ret (r := some (.int v113)) rfl ⟨rfl, rfl⟩
        rw [if_neg hs111] at h
        by_cases hs115 : ((p1).toInt - 0).toNat = 2
        · rw [if_pos hs115] at h
          refine pG_tsi (t := 63) (j := 2) (o := 36) rfl hs109 hs115 rfl rfl ?_
          refine pG_many 1 (pc1 := 64) (L1 := [some (.ref 0), some (.int p0), some (.int p1), some (.int v107)]) (st1 := [.ref 0]) (M1 := mjTo Z) (fun _ _ => rfl) ?_
          refine pG_getR (ci := 11) (f := 7) (b := 199) rfl rfl rfl (by rfl) (by decide) rfl ?_
          refine pG_many 1 (pc1 := 68) (L1 := [some (.ref 0), some (.int p0), some (.int p1), some (.int v107)]) (st1 := [.ref 0, .ref 199]) (M1 := mjTo Z) (fun _ _ => rfl) ?_
          refine pG_getR (ci := 11) (f := 2) (b := Z.2.2.1) rfl rfl rfl (by rfl) (by decide) rfl ?_
          refine pG_many 1 (pc1 := 72) (L1 := [some (.ref 0), some (.int p0), some (.int p1), some (.int v107)]) (st1 := [.int p0, .ref Z.2.2.1, .ref 199]) (M1 := mjTo Z) (fun _ _ => rfl) ?_
          cases hq116 : f145_struckActs 199 Z.2.2.1 p0 Z with
          | none => rw [hq116] at h; cases h
          | some v117 =>
            rw [hq116, mjBp_some] at h
            refine pG_callV (k2 := 133) (As := [.ref 199, .ref Z.2.2.1, .int p0]) (rest := []) rfl rfl rfl rfl rfl (by rfl) (by decide) (by decide) (f145_struckActs_ok hq116) ?_
            rintro r9 M9 ⟨rfl, rfl⟩
            show pG 155 75 [some (.ref 0), some (.int p0), some (.int p1), some (.int v107)] [.int v117] (mjTo Z) _
            simp only [Option.some.injEq] at h
            subst h
            exact pG_ret (r := some (.int v117)) rfl ⟨rfl, rfl⟩
        rw [if_neg hs115] at h
        cases h
    · rw [if_neg hc105] at h
      refine pG_iff (t := 13) rfl rfl hc105 ?_
      refine pG_many 1 (pc1 := 12) (L1 := [some (.ref 0), some (.int p0), some (.int p1), none]) (st1 := [.int ((-1))]) (M1 := mjTo Z) (fun _ _ => rfl) ?_
      simp only [Option.some.injEq] at h
      subst h
      exact pG_ret (r := some (.int ((-1)))) rfl ⟨rfl, rfl⟩
def f180_rank (p0 : Int32) (Z : mjZt) : Option Int32 :=
  if mjIs Z.2.2.1 211 2 = true then
  mjBp (f7_hasTeam Z.2.2.1 p0 Z) fun v103 =>
  if mjCmp .eq v103 0 = true then
    some ((-1))
  else
    mjBp (f137_rankByTime 199 p0 Z) fun v107 =>
    some v107
  else none
theorem f180_rank_ok {p0 : Int32} {Z : mjZt} {v9 : Int32} (h : f180_rank p0 Z = some v9) : pG 156 0 (mjEnt [.ref 0, .int p0] (mjML 156)) [] (mjTo Z) (fun r M1 => r = some (.int v9) ∧ M1 = mjTo Z) := by
  unfold f180_rank at h
  show pG 156 0 [some (.ref 0), some (.int p0)] [] (mjTo Z) _
  refine pG_many 1 (pc1 := 1) (L1 := [some (.ref 0), some (.int p0)]) (st1 := [.ref 0]) (M1 := mjTo Z) (fun _ _ => rfl) ?_
  refine pG_getR (ci := 11) (f := 2) (b := Z.2.2.1) rfl rfl rfl (by rfl) (by decide) rfl ?_
  refine pG_many 1 (pc1 := 5) (L1 := [some (.ref 0), some (.int p0)]) (st1 := [.int p0, .ref Z.2.2.1]) (M1 := mjTo Z) (fun _ _ => rfl) ?_
  have hk101 : mjIs Z.2.2.1 211 2 = true := by
    by_cases q9 : mjIs Z.2.2.1 211 2 = true
    · exact q9
    · rw [if_neg q9] at h; cases h
  rw [if_pos hk101] at h
  cases hq102 : f7_hasTeam Z.2.2.1 p0 Z with
  | none => rw [hq102] at h; cases h
  | some v103 =>
    rw [hq102, mjBp_some] at h
    refine pG_callV (k2 := 7) (As := [.ref Z.2.2.1, .int p0]) (rest := []) rfl rfl rfl rfl rfl (mjRcv_is hk101 (by decide)) (by decide) (by decide) (f7_hasTeam_ok hq102) ?_
    rintro r9 M9 ⟨rfl, rfl⟩
    show pG 156 8 [some (.ref 0), some (.int p0)] [.int v103] (mjTo Z) _
    by_cases hc105 : mjCmp .eq v103 0 = true
    · rw [if_pos hc105] at h
      refine pG_ift (t := 22) rfl rfl hc105 ?_
      refine pG_many 1 (pc1 := 23) (L1 := [some (.ref 0), some (.int p0)]) (st1 := [.int ((-1))]) (M1 := mjTo Z) (fun _ _ => rfl) ?_
      simp only [Option.some.injEq] at h
      subst h
      exact pG_ret (r := some (.int ((-1)))) rfl ⟨rfl, rfl⟩
    · rw [if_neg hc105] at h
      refine pG_iff (t := 22) rfl rfl hc105 ?_
      refine pG_many 1 (pc1 := 12) (L1 := [some (.ref 0), some (.int p0)]) (st1 := [.ref 0]) (M1 := mjTo Z) (fun _ _ => rfl) ?_
      refine pG_getR (ci := 11) (f := 7) (b := 199) rfl rfl rfl (by rfl) (by decide) rfl ?_
      refine pG_many 1 (pc1 := 16) (L1 := [some (.ref 0), some (.int p0)]) (st1 := [.int p0, .ref 199]) (M1 := mjTo Z) (fun _ _ => rfl) ?_
      cases hq106 : f137_rankByTime 199 p0 Z with
      | none => rw [hq106] at h; cases h
      | some v107 =>
        rw [hq106, mjBp_some] at h
        refine pG_callV (k2 := 126) (As := [.ref 199, .int p0]) (rest := []) rfl rfl rfl rfl rfl (by rfl) (by decide) (by decide) (f137_rankByTime_ok hq106) ?_
        rintro r9 M9 ⟨rfl, rfl⟩
        show pG 156 19 [some (.ref 0), some (.int p0)] [.int v107] (mjTo Z) _
        refine pG_many 1 (pc1 := 23) (L1 := [some (.ref 0), some (.int p0)]) (st1 := [.int v107]) (M1 := mjTo Z) (fun _ _ => rfl) ?_
        simp only [Option.some.injEq] at h
        subst h
        exact pG_ret (r := some (.int v107)) rfl ⟨rfl, rfl⟩
def f181_result (p0 : Int32) (Z : mjZt) : Option Int32 :=
  mjBp (f140_kthOfResult 199 Z.2.2.1 p0 Z) fun v102 =>
  some v102
theorem f181_result_ok {p0 : Int32} {Z : mjZt} {v9 : Int32} (h : f181_result p0 Z = some v9) : pG 157 0 (mjEnt [.ref 0, .int p0] (mjML 157)) [] (mjTo Z) (fun r M1 => r = some (.int v9) ∧ M1 = mjTo Z) := by
  unfold f181_result at h
  show pG 157 0 [some (.ref 0), some (.int p0)] [] (mjTo Z) _
  refine pG_many 1 (pc1 := 1) (L1 := [some (.ref 0), some (.int p0)]) (st1 := [.ref 0]) (M1 := mjTo Z) (fun _ _ => rfl) ?_
  refine pG_getR (ci := 11) (f := 7) (b := 199) rfl rfl rfl (by rfl) (by decide) rfl ?_
  refine pG_many 1 (pc1 := 5) (L1 := [some (.ref 0), some (.int p0)]) (st1 := [.ref 0, .ref 199]) (M1 := mjTo Z) (fun _ _ => rfl) ?_
  refine pG_getR (ci := 11) (f := 2) (b := Z.2.2.1) rfl rfl rfl (by rfl) (by decide) rfl ?_
  refine pG_many 1 (pc1 := 9) (L1 := [some (.ref 0), some (.int p0)]) (st1 := [.int p0, .ref Z.2.2.1, .ref 199]) (M1 := mjTo Z) (fun _ _ => rfl) ?_
  cases hq101 : f140_kthOfResult 199 Z.2.2.1 p0 Z with
  | none => rw [hq101] at h; cases h
  | some v102 =>
    rw [hq101, mjBp_some] at h
    refine pG_callV (k2 := 128) (As := [.ref 199, .ref Z.2.2.1, .int p0]) (rest := []) rfl rfl rfl rfl rfl (by rfl) (by decide) (by decide) (f140_kthOfResult_ok hq101) ?_
    rintro r9 M9 ⟨rfl, rfl⟩
    show pG 157 12 [some (.ref 0), some (.int p0)] [.int v102] (mjTo Z) _
    simp only [Option.some.injEq] at h
    subst h
    exact pG_ret (r := some (.int v102)) rfl ⟨rfl, rfl⟩
def f182_who (p0 : Int32) (Z : mjZt) : Option Int32 :=
  if (p0).toInt < 0 ∨ 4 < (p0).toInt then
    some ((-1))
  else if ((p0).toInt - 0).toNat = 0 then
    some (Z.1 199 4)
  else if ((p0).toInt - 0).toNat = 1 then
    some (Z.1 199 5)
  else if ((p0).toInt - 0).toNat = 2 then
    some (Z.1 199 6)
  else if ((p0).toInt - 0).toNat = 3 then
    some (Z.1 199 7)
  else if ((p0).toInt - 0).toNat = 4 then
    some (Z.1 199 8)
  else none
theorem f182_who_ok {p0 : Int32} {Z : mjZt} {v9 : Int32} (h : f182_who p0 Z = some v9) : pG 158 0 (mjEnt [.ref 0, .int p0] (mjML 158)) [] (mjTo Z) (fun r M1 => r = some (.int v9) ∧ M1 = mjTo Z) := by
  unfold f182_who at h
  show pG 158 0 [some (.ref 0), some (.int p0)] [] (mjTo Z) _
  refine pG_many 1 (pc1 := 1) (L1 := [some (.ref 0), some (.int p0)]) (st1 := [.int p0]) (M1 := mjTo Z) (fun _ _ => rfl) ?_
  by_cases hs101 : (p0).toInt < 0 ∨ 4 < (p0).toInt
  · rw [if_pos hs101] at h
    refine pG_tso (t := 76) rfl hs101 rfl ?_
    refine pG_many 1 (pc1 := 77) (L1 := [some (.ref 0), some (.int p0)]) (st1 := [.int ((-1))]) (M1 := mjTo Z) (fun _ _ => rfl) ?_
    simp only [Option.some.injEq] at h
    subst h
    exact pG_ret (r := some (.int ((-1)))) rfl ⟨rfl, rfl⟩
  rw [if_neg hs101] at h
  by_cases hs102 : ((p0).toInt - 0).toNat = 0
  · rw [if_pos hs102] at h
    refine pG_tsi (t := 36) (j := 0) (o := 35) rfl hs101 hs102 rfl rfl ?_
    refine pG_many 1 (pc1 := 37) (L1 := [some (.ref 0), some (.int p0)]) (st1 := [.ref 0]) (M1 := mjTo Z) (fun _ _ => rfl) ?_
    refine pG_getR (ci := 11) (f := 7) (b := 199) rfl rfl rfl (by rfl) (by decide) rfl ?_
    refine pG_getI (ci := 10) (f := 4) rfl rfl (Or.inl rfl) (by rfl) (by decide) ?_
    simp only [Option.some.injEq] at h
    subst h
    exact pG_ret (r := some (.int (Z.1 199 4))) rfl ⟨rfl, rfl⟩
  rw [if_neg hs102] at h
  by_cases hs103 : ((p0).toInt - 0).toNat = 1
  · rw [if_pos hs103] at h
    refine pG_tsi (t := 44) (j := 1) (o := 43) rfl hs101 hs103 rfl rfl ?_
    refine pG_many 1 (pc1 := 45) (L1 := [some (.ref 0), some (.int p0)]) (st1 := [.ref 0]) (M1 := mjTo Z) (fun _ _ => rfl) ?_
    refine pG_getR (ci := 11) (f := 7) (b := 199) rfl rfl rfl (by rfl) (by decide) rfl ?_
    refine pG_getI (ci := 10) (f := 5) rfl rfl (Or.inl rfl) (by rfl) (by decide) ?_
    simp only [Option.some.injEq] at h
    subst h
    exact pG_ret (r := some (.int (Z.1 199 5))) rfl ⟨rfl, rfl⟩
  rw [if_neg hs103] at h
  by_cases hs104 : ((p0).toInt - 0).toNat = 2
  · rw [if_pos hs104] at h
    refine pG_tsi (t := 52) (j := 2) (o := 51) rfl hs101 hs104 rfl rfl ?_
    refine pG_many 1 (pc1 := 53) (L1 := [some (.ref 0), some (.int p0)]) (st1 := [.ref 0]) (M1 := mjTo Z) (fun _ _ => rfl) ?_
    refine pG_getR (ci := 11) (f := 7) (b := 199) rfl rfl rfl (by rfl) (by decide) rfl ?_
    refine pG_getI (ci := 10) (f := 6) rfl rfl (Or.inl rfl) (by rfl) (by decide) ?_
    simp only [Option.some.injEq] at h
    subst h
    exact pG_ret (r := some (.int (Z.1 199 6))) rfl ⟨rfl, rfl⟩
  rw [if_neg hs104] at h
  by_cases hs105 : ((p0).toInt - 0).toNat = 3
  · rw [if_pos hs105] at h
    refine pG_tsi (t := 60) (j := 3) (o := 59) rfl hs101 hs105 rfl rfl ?_
    refine pG_many 1 (pc1 := 61) (L1 := [some (.ref 0), some (.int p0)]) (st1 := [.ref 0]) (M1 := mjTo Z) (fun _ _ => rfl) ?_
    refine pG_getR (ci := 11) (f := 7) (b := 199) rfl rfl rfl (by rfl) (by decide) rfl ?_
    refine pG_getI (ci := 10) (f := 7) rfl rfl (Or.inl rfl) (by rfl) (by decide) ?_
    simp only [Option.some.injEq] at h
    subst h
    exact pG_ret (r := some (.int (Z.1 199 7))) rfl ⟨rfl, rfl⟩
  rw [if_neg hs105] at h
  by_cases hs106 : ((p0).toInt - 0).toNat = 4
  · rw [if_pos hs106] at h
    refine pG_tsi (t := 68) (j := 4) (o := 67) rfl hs101 hs106 rfl rfl ?_
    refine pG_many 1 (pc1 := 69) (L1 := [some (.ref 0), some (.int p0)]) (st1 := [.ref 0]) (M1 := mjTo Z) (fun _ _ => rfl) ?_
    refine pG_getR (ci := 11) (f := 7) (b := 199) rfl rfl rfl (by rfl) (by decide) rfl ?_
    refine pG_getI (ci := 10) (f := 8) rfl rfl (Or.inl rfl) (by rfl) (by decide) ?_
    simp only [Option.some.injEq] at h
    subst h
    exact pG_ret (r := some (.int (Z.1 199 8))) rfl ⟨rfl, rfl⟩
  rw [if_neg hs106] at h
  cases h
def f183_would (p0 : Int32) (Z : mjZt) : Option Int32 :=
  if mjIs Z.2.2.1 211 2 = true then
  mjBp (f7_hasTeam Z.2.2.1 p0 Z) fun v103 =>
  if mjCmp .ne v103 0 = true then
    mjBp (f23_isWhole Z.2.2.1 p0 Z) fun v107 =>
    if mjCmp .eq v107 0 = true then
      some ((-2))
    else
      mjBp (f139_wouldOf 199 p0 Z) fun v111 =>
      some v111
  else
    some ((-1))
  else none
theorem f183_would_ok {p0 : Int32} {Z : mjZt} {v9 : Int32} (h : f183_would p0 Z = some v9) : pG 159 0 (mjEnt [.ref 0, .int p0] (mjML 159)) [] (mjTo Z) (fun r M1 => r = some (.int v9) ∧ M1 = mjTo Z) := by
  unfold f183_would at h
  show pG 159 0 [some (.ref 0), some (.int p0)] [] (mjTo Z) _
  refine pG_many 1 (pc1 := 1) (L1 := [some (.ref 0), some (.int p0)]) (st1 := [.ref 0]) (M1 := mjTo Z) (fun _ _ => rfl) ?_
  refine pG_getR (ci := 11) (f := 2) (b := Z.2.2.1) rfl rfl rfl (by rfl) (by decide) rfl ?_
  refine pG_many 1 (pc1 := 5) (L1 := [some (.ref 0), some (.int p0)]) (st1 := [.int p0, .ref Z.2.2.1]) (M1 := mjTo Z) (fun _ _ => rfl) ?_
  have hk101 : mjIs Z.2.2.1 211 2 = true := by
    by_cases q9 : mjIs Z.2.2.1 211 2 = true
    · exact q9
    · rw [if_neg q9] at h; cases h
  rw [if_pos hk101] at h
  cases hq102 : f7_hasTeam Z.2.2.1 p0 Z with
  | none => rw [hq102] at h; cases h
  | some v103 =>
    rw [hq102, mjBp_some] at h
    refine pG_callV (k2 := 7) (As := [.ref Z.2.2.1, .int p0]) (rest := []) rfl rfl rfl rfl rfl (mjRcv_is hk101 (by decide)) (by decide) (by decide) (f7_hasTeam_ok hq102) ?_
    rintro r9 M9 ⟨rfl, rfl⟩
    show pG 159 8 [some (.ref 0), some (.int p0)] [.int v103] (mjTo Z) _
    by_cases hc105 : mjCmp .ne v103 0 = true
    · rw [if_pos hc105] at h
      refine pG_ift (t := 13) rfl rfl hc105 ?_
      refine pG_many 1 (pc1 := 14) (L1 := [some (.ref 0), some (.int p0)]) (st1 := [.ref 0]) (M1 := mjTo Z) (fun _ _ => rfl) ?_
      refine pG_getR (ci := 11) (f := 2) (b := Z.2.2.1) rfl rfl rfl (by rfl) (by decide) rfl ?_
      refine pG_many 1 (pc1 := 18) (L1 := [some (.ref 0), some (.int p0)]) (st1 := [.int p0, .ref Z.2.2.1]) (M1 := mjTo Z) (fun _ _ => rfl) ?_
      cases hq106 : f23_isWhole Z.2.2.1 p0 Z with
      | none => rw [hq106] at h; cases h
      | some v107 =>
        rw [hq106, mjBp_some] at h
        refine pG_callV (k2 := 23) (As := [.ref Z.2.2.1, .int p0]) (rest := []) rfl rfl rfl rfl rfl (mjRcv_is hk101 (by decide)) (by decide) (by decide) (f23_isWhole_ok hq106) ?_
        rintro r9 M9 ⟨rfl, rfl⟩
        show pG 159 21 [some (.ref 0), some (.int p0)] [.int v107] (mjTo Z) _
        by_cases hc109 : mjCmp .eq v107 0 = true
        · rw [if_pos hc109] at h
          refine pG_ift (t := 35) rfl rfl hc109 ?_
          refine pG_many 1 (pc1 := 37) (L1 := [some (.ref 0), some (.int p0)]) (st1 := [.int ((-2))]) (M1 := mjTo Z) (fun _ _ => rfl) ?_
          simp only [Option.some.injEq] at h
          subst h
          exact pG_ret (r := some (.int ((-2)))) rfl ⟨rfl, rfl⟩
        · rw [if_neg hc109] at h
          refine pG_iff (t := 35) rfl rfl hc109 ?_
          refine pG_many 1 (pc1 := 25) (L1 := [some (.ref 0), some (.int p0)]) (st1 := [.ref 0]) (M1 := mjTo Z) (fun _ _ => rfl) ?_
          refine pG_getR (ci := 11) (f := 7) (b := 199) rfl rfl rfl (by rfl) (by decide) rfl ?_
          refine pG_many 1 (pc1 := 29) (L1 := [some (.ref 0), some (.int p0)]) (st1 := [.int p0, .ref 199]) (M1 := mjTo Z) (fun _ _ => rfl) ?_
          cases hq110 : f139_wouldOf 199 p0 Z with
          | none => rw [hq110] at h; cases h
          | some v111 =>
            rw [hq110, mjBp_some] at h
            refine pG_callV (k2 := 127) (As := [.ref 199, .int p0]) (rest := []) rfl rfl rfl rfl rfl (by rfl) (by decide) (by decide) (f139_wouldOf_ok hq110) ?_
            rintro r9 M9 ⟨rfl, rfl⟩
            show pG 159 32 [some (.ref 0), some (.int p0)] [.int v111] (mjTo Z) _
            refine pG_many 1 (pc1 := 37) (L1 := [some (.ref 0), some (.int p0)]) (st1 := [.int v111]) (M1 := mjTo Z) (fun _ _ => rfl) ?_
            simp only [Option.some.injEq] at h
            subst h
            exact pG_ret (r := some (.int v111)) rfl ⟨rfl, rfl⟩
    · rw [if_neg hc105] at h
      refine pG_iff (t := 13) rfl rfl hc105 ?_
      refine pG_many 1 (pc1 := 12) (L1 := [some (.ref 0), some (.int p0)]) (st1 := [.int ((-1))]) (M1 := mjTo Z) (fun _ _ => rfl) ?_
      simp only [Option.some.injEq] at h
      subst h
      exact pG_ret (r := some (.int ((-1)))) rfl ⟨rfl, rfl⟩
def f187_again  (Z : mjZt) : Option Int32 :=
  mjBp (f141_isRunAgain 199 Z) fun v102 =>
  if mjCmp .eq v102 0 = true then
    some 0
  else
    some 1
theorem f187_again_ok  {Z : mjZt} {v9 : Int32} (h : f187_again  Z = some v9) : pG 160 0 (mjEnt [.ref 0] (mjML 160)) [] (mjTo Z) (fun r M1 => r = some (.int v9) ∧ M1 = mjTo Z) := by
  unfold f187_again at h
  show pG 160 0 [some (.ref 0)] [] (mjTo Z) _
  refine pG_many 1 (pc1 := 1) (L1 := [some (.ref 0)]) (st1 := [.ref 0]) (M1 := mjTo Z) (fun _ _ => rfl) ?_
  refine pG_getR (ci := 11) (f := 7) (b := 199) rfl rfl rfl (by rfl) (by decide) rfl ?_
  cases hq101 : f141_isRunAgain 199 Z with
  | none => rw [hq101] at h; cases h
  | some v102 =>
    rw [hq101, mjBp_some] at h
    refine pG_callV (k2 := 129) (As := [.ref 199]) (rest := []) rfl rfl rfl rfl rfl (by rfl) (by decide) (by decide) (f141_isRunAgain_ok hq101) ?_
    rintro r9 M9 ⟨rfl, rfl⟩
    show pG 160 7 [some (.ref 0)] [.int v102] (mjTo Z) _
    by_cases hc104 : mjCmp .eq v102 0 = true
    · rw [if_pos hc104] at h
      refine pG_ift (t := 14) rfl rfl hc104 ?_
      refine pG_many 1 (pc1 := 15) (L1 := [some (.ref 0)]) (st1 := [.int 0]) (M1 := mjTo Z) (fun _ _ => rfl) ?_
      simp only [Option.some.injEq] at h
      subst h
      exact pG_ret (r := some (.int 0)) rfl ⟨rfl, rfl⟩
    · rw [if_neg hc104] at h
      refine pG_iff (t := 14) rfl rfl hc104 ?_
      refine pG_many 2 (pc1 := 15) (L1 := [some (.ref 0)]) (st1 := [.int 1]) (M1 := mjTo Z) (fun _ _ => rfl) ?_
      simp only [Option.some.injEq] at h
      subst h
      exact pG_ret (r := some (.int 1)) rfl ⟨rfl, rfl⟩
def f189_stays (p0 : Int32) (p1 : Int32) (Z : mjZt) : Option (Int32 × mjZt) :=
  if mjIs Z.2.2.1 211 2 = true then
  mjBp (f7_hasTeam Z.2.2.1 p0 Z) fun v103 =>
  if mjCmp .eq v103 0 = true then
    some ((-1), Z)
  else
    if mjCmp .lt p1 0 = true then
      some ((-1), Z)
    else
      if mjCmp .le p1 1 = true then
        mjBd (f96_fewestWaived Z.2.2.1 p0 Z) fun v109 Z110 =>
        if mjCmp .eq v109 ((-2)) = true then
          some (v109, Z110)
        else
          if mjCmp .ne p1 1 = true then
            mjBp (f323_bitCount v109 Z110) fun v114 =>
            some (v114, Z110)
          else
            some (v109, Z110)
      else
        some ((-1), Z)
  else none
theorem f189_stays_ok {p0 : Int32} {p1 : Int32} {Z : mjZt} {v9 : Int32} {Z9 : mjZt} (h : f189_stays p0 p1 Z = some (v9, Z9)) : pG 161 0 (mjEnt [.ref 0, .int p0, .int p1] (mjML 161)) [] (mjTo Z) (fun r M1 => r = some (.int v9) ∧ M1 = mjTo Z9) := by
  unfold f189_stays at h
  show pG 161 0 [some (.ref 0), some (.int p0), some (.int p1), none] [] (mjTo Z) _
  refine pG_many 1 (pc1 := 1) (L1 := [some (.ref 0), some (.int p0), some (.int p1), none]) (st1 := [.ref 0]) (M1 := mjTo Z) (fun _ _ => rfl) ?_
  refine pG_getR (ci := 11) (f := 2) (b := Z.2.2.1) rfl rfl rfl (by rfl) (by decide) rfl ?_
  refine pG_many 1 (pc1 := 5) (L1 := [some (.ref 0), some (.int p0), some (.int p1), none]) (st1 := [.int p0, .ref Z.2.2.1]) (M1 := mjTo Z) (fun _ _ => rfl) ?_
  have hk101 : mjIs Z.2.2.1 211 2 = true := by
    by_cases q9 : mjIs Z.2.2.1 211 2 = true
    · exact q9
    · rw [if_neg q9] at h; cases h
  rw [if_pos hk101] at h
  cases hq102 : f7_hasTeam Z.2.2.1 p0 Z with
  | none => rw [hq102] at h; cases h
  | some v103 =>
    rw [hq102, mjBp_some] at h
    refine pG_callV (k2 := 7) (As := [.ref Z.2.2.1, .int p0]) (rest := []) rfl rfl rfl rfl rfl (mjRcv_is hk101 (by decide)) (by decide) (by decide) (f7_hasTeam_ok hq102) ?_
    rintro r9 M9 ⟨rfl, rfl⟩
    show pG 161 8 [some (.ref 0), some (.int p0), some (.int p1), none] [.int v103] (mjTo Z) _
    by_cases hc105 : mjCmp .eq v103 0 = true
    · rw [if_pos hc105] at h
      refine pG_ift (t := 20) rfl rfl hc105 ?_
      refine pG_many 1 (pc1 := 21) (L1 := [some (.ref 0), some (.int p0), some (.int p1), none]) (st1 := [.int ((-1))]) (M1 := mjTo Z) (fun _ _ => rfl) ?_
      simp only [Option.some.injEq, Prod.mk.injEq] at h
      obtain ⟨rfl, rfl⟩ := h
      exact pG_ret (r := some (.int ((-1)))) rfl ⟨rfl, rfl⟩
    · rw [if_neg hc105] at h
      refine pG_iff (t := 20) rfl rfl hc105 ?_
      refine pG_many 1 (pc1 := 12) (L1 := [some (.ref 0), some (.int p0), some (.int p1), none]) (st1 := [.int p1]) (M1 := mjTo Z) (fun _ _ => rfl) ?_
      by_cases hc106 : mjCmp .lt p1 0 = true
      · rw [if_pos hc106] at h
        refine pG_ift (t := 20) rfl rfl hc106 ?_
        refine pG_many 1 (pc1 := 21) (L1 := [some (.ref 0), some (.int p0), some (.int p1), none]) (st1 := [.int ((-1))]) (M1 := mjTo Z) (fun _ _ => rfl) ?_
        simp only [Option.some.injEq, Prod.mk.injEq] at h
        obtain ⟨rfl, rfl⟩ := h
        exact pG_ret (r := some (.int ((-1)))) rfl ⟨rfl, rfl⟩
      · rw [if_neg hc106] at h
        refine pG_iff (t := 20) rfl rfl hc106 ?_
        refine pG_many 2 (pc1 := 17) (L1 := [some (.ref 0), some (.int p0), some (.int p1), none]) (st1 := [.int 1, .int p1]) (M1 := mjTo Z) (fun _ _ => rfl) ?_
        by_cases hc107 : mjCmp .le p1 1 = true
        · rw [if_pos hc107] at h
          refine pG_cmt (t := 22) rfl rfl hc107 ?_
          refine pG_many 1 (pc1 := 23) (L1 := [some (.ref 0), some (.int p0), some (.int p1), none]) (st1 := [.ref 0]) (M1 := mjTo Z) (fun _ _ => rfl) ?_
          refine pG_getR (ci := 11) (f := 6) (b := 190) rfl rfl rfl (by rfl) (by decide) rfl ?_
          refine pG_many 1 (pc1 := 27) (L1 := [some (.ref 0), some (.int p0), some (.int p1), none]) (st1 := [.ref 0, .ref 190]) (M1 := mjTo Z) (fun _ _ => rfl) ?_
          refine pG_getR (ci := 11) (f := 2) (b := Z.2.2.1) rfl rfl rfl (by rfl) (by decide) rfl ?_
          refine pG_many 1 (pc1 := 31) (L1 := [some (.ref 0), some (.int p0), some (.int p1), none]) (st1 := [.int p0, .ref Z.2.2.1, .ref 190]) (M1 := mjTo Z) (fun _ _ => rfl) ?_
          cases hq108 : f96_fewestWaived Z.2.2.1 p0 Z with
          | none => rw [hq108] at h; cases h
          | some w =>
            obtain ⟨v109, Z110⟩ := w
            rw [hq108, mjBd_some] at h
            refine pG_callV (k2 := 94) (As := [.ref 190, .ref Z.2.2.1, .int p0]) (rest := []) rfl rfl rfl rfl rfl (by rfl) (by decide) (by decide) (f96_fewestWaived_ok hq108) ?_
            rintro r9 M9 ⟨rfl, rfl⟩
            show pG 161 34 [some (.ref 0), some (.int p0), some (.int p1), none] [.int v109] (mjTo Z110) _
            refine pG_many 3 (pc1 := 38) (L1 := [some (.ref 0), some (.int p0), some (.int p1), some (.int v109)]) (st1 := [.int ((-2)), .int v109]) (M1 := mjTo Z110) (fun _ _ => rfl) ?_
            by_cases hc111 : mjCmp .eq v109 ((-2)) = true
            · rw [if_pos hc111] at h
              refine pG_cmt (t := 46) rfl rfl hc111 ?_
              refine pG_many 1 (pc1 := 47) (L1 := [some (.ref 0), some (.int p0), some (.int p1), some (.int v109)]) (st1 := [.int v109]) (M1 := mjTo Z110) (fun _ _ => rfl) ?_
              simp only [Option.some.injEq, Prod.mk.injEq] at h
              obtain ⟨rfl, rfl⟩ := h
              exact pG_ret (r := some (.int v109)) rfl ⟨rfl, rfl⟩
            · rw [if_neg hc111] at h
              refine pG_cmf (t := 46) rfl rfl hc111 ?_
              refine pG_many 2 (pc1 := 43) (L1 := [some (.ref 0), some (.int p0), some (.int p1), some (.int v109)]) (st1 := [.int 1, .int p1]) (M1 := mjTo Z110) (fun _ _ => rfl) ?_
              by_cases hc112 : mjCmp .ne p1 1 = true
              · rw [if_pos hc112] at h
                refine pG_cmt (t := 48) rfl rfl hc112 ?_
                refine pG_many 1 (pc1 := 49) (L1 := [some (.ref 0), some (.int p0), some (.int p1), some (.int v109)]) (st1 := [.int v109]) (M1 := mjTo Z110) (fun _ _ => rfl) ?_
                cases hq113 : f323_bitCount v109 Z110 with
                | none => rw [hq113] at h; cases h
                | some v114 =>
                  rw [hq113, mjBp_some] at h
                  refine pG_call (k2 := 166) (As := [.int v109]) (rest := []) (fun _ _ => rfl) (by decide) (by decide) (f323_bitCount_ok hq113) ?_
                  rintro r9 M9 ⟨rfl, rfl⟩
                  show pG 161 52 [some (.ref 0), some (.int p0), some (.int p1), some (.int v109)] [.int v114] (mjTo Z110) _
                  simp only [Option.some.injEq, Prod.mk.injEq] at h
                  obtain ⟨rfl, rfl⟩ := h
                  exact pG_ret (r := some (.int v114)) rfl ⟨rfl, rfl⟩
              · rw [if_neg hc112] at h
                refine pG_cmf (t := 48) rfl rfl hc112 ?_
                refine pG_many 1 (pc1 := 47) (L1 := [some (.ref 0), some (.int p0), some (.int p1), some (.int v109)]) (st1 := [.int v109]) (M1 := mjTo Z110) (fun _ _ => rfl) ?_
                simp only [Option.some.injEq, Prod.mk.injEq] at h
                obtain ⟨rfl, rfl⟩ := h
                exact pG_ret (r := some (.int v109)) rfl ⟨rfl, rfl⟩
        · rw [if_neg hc107] at h
          refine pG_cmf (t := 22) rfl rfl hc107 ?_
          refine pG_many 1 (pc1 := 21) (L1 := [some (.ref 0), some (.int p0), some (.int p1), none]) (st1 := [.int ((-1))]) (M1 := mjTo Z) (fun _ _ => rfl) ?_
          simp only [Option.some.injEq, Prod.mk.injEq] at h
          obtain ⟨rfl, rfl⟩ := h
          exact pG_ret (r := some (.int ((-1)))) rfl ⟨rfl, rfl⟩
def f190_appeal_j92 (x1 : Int32) (x2 : Int32) (x3 : Int32) (x4 : Nat) (x5 : Int32) (s1 : Int32) (Z : mjZt) : Option (Int32 × mjZt) :=
  mjBd (f4_keep s1 x1 x5 0 0 Z) fun _ Z120 =>
  if mjCmp .ne x2 0 = true then
    if mjIs x4 211 0 = true then
    mjLet (zSi Z120 x4 4 x3) fun Z123 =>
    mjBd (f151_settleAll  Z123) fun _ Z126 =>
    some (x5, Z126)
    else none
  else
    if mjIs x4 211 0 = true then
    mjLet (zSi Z120 x4 3 x3) fun Z128 =>
    mjBd (f151_settleAll  Z128) fun _ Z131 =>
    some (x5, Z131)
    else none
theorem f190_appeal_j92_ok (x1 : Int32) (x2 : Int32) (x3 : Int32) (x4 : Nat) (x5 : Int32) (s1 : Int32) (Z : mjZt) (v9 : Int32) (Z9 : mjZt) (h : f190_appeal_j92 x1 x2 x3 x4 x5 s1 Z = some (v9, Z9)) : pG 162 92 [some (.ref 0), some (.int x1), some (.int x2), some (.int x3), some (.ref x4), some (.int x5)] [.int s1, .ref 209] (mjTo Z) (fun r M1 => r = some (.int v9) ∧ M1 = mjTo Z9) := by
  unfold f190_appeal_j92 at h
  refine pG_many 4 (pc1 := 97) (L1 := [some (.ref 0), some (.int x1), some (.int x2), some (.int x3), some (.ref x4), some (.int x5)]) (st1 := [.int 0, .int 0, .int x5, .int x1, .int s1, .ref 209]) (M1 := mjTo Z) (fun _ _ => rfl) ?_
  cases hq118 : f4_keep s1 x1 x5 0 0 Z with
  | none => rw [hq118] at h; cases h
  | some w =>
    obtain ⟨v119, Z120⟩ := w
    rw [hq118, mjBd_some] at h
    refine pG_callV (k2 := 4) (As := [.ref 209, .int s1, .int x1, .int x5, .int 0, .int 0]) (rest := []) rfl rfl rfl rfl rfl (by rfl) (by decide) (by decide) (f4_keep_ok hq118) ?_
    rintro r9 M9 ⟨rfl, rfl⟩
    show pG 162 100 [some (.ref 0), some (.int x1), some (.int x2), some (.int x3), some (.ref x4), some (.int x5)] [] (mjTo Z120) _
    refine pG_many 1 (pc1 := 101) (L1 := [some (.ref 0), some (.int x1), some (.int x2), some (.int x3), some (.ref x4), some (.int x5)]) (st1 := [.int x2]) (M1 := mjTo Z120) (fun _ _ => rfl) ?_
    by_cases hc121 : mjCmp .ne x2 0 = true
    · rw [if_pos hc121] at h
      refine pG_ift (t := 113) rfl rfl hc121 ?_
      refine pG_many 2 (pc1 := 116) (L1 := [some (.ref 0), some (.int x1), some (.int x2), some (.int x3), some (.ref x4), some (.int x5)]) (st1 := [.int x3, .ref x4]) (M1 := mjTo Z120) (fun _ _ => rfl) ?_
      have hk122 : mjIs x4 211 0 = true := by
        by_cases q9 : mjIs x4 211 0 = true
        · exact q9
        · rw [if_neg q9] at h; cases h
      rw [if_pos hk122] at h
      refine pG_putI (ci := 0) (f := 4) rfl rfl rfl rfl hk122 (by decide) ?_
      rw [mjLet] at h
      generalize zSi Z120 x4 4 x3 = Z123 at h ⊢
      refine pG_many 1 (pc1 := 120) (L1 := [some (.ref 0), some (.int x1), some (.int x2), some (.int x3), some (.ref x4), some (.int x5)]) (st1 := [.ref 0]) (M1 := mjTo Z123) (fun _ _ => rfl) ?_
      cases hq124 : f151_settleAll  Z123 with
      | none => rw [hq124] at h; cases h
      | some w =>
        obtain ⟨v125, Z126⟩ := w
        rw [hq124, mjBd_some] at h
        refine pG_callV (k2 := 138) (As := [.ref 0]) (rest := []) rfl rfl rfl rfl rfl (by rfl) (by decide) (by decide) (f151_settleAll_ok hq124) ?_
        rintro r9 M9 ⟨rfl, rfl⟩
        show pG 162 123 [some (.ref 0), some (.int x1), some (.int x2), some (.int x3), some (.ref x4), some (.int x5)] [] (mjTo Z126) _
        refine pG_many 1 (pc1 := 125) (L1 := [some (.ref 0), some (.int x1), some (.int x2), some (.int x3), some (.ref x4), some (.int x5)]) (st1 := [.int x5]) (M1 := mjTo Z126) (fun _ _ => rfl) ?_
        simp only [Option.some.injEq, Prod.mk.injEq] at h
        obtain ⟨rfl, rfl⟩ := h
        exact pG_ret (r := some (.int x5)) rfl ⟨rfl, rfl⟩
    · rw [if_neg hc121] at h
      refine pG_iff (t := 113) rfl rfl hc121 ?_
      refine pG_many 2 (pc1 := 107) (L1 := [some (.ref 0), some (.int x1), some (.int x2), some (.int x3), some (.ref x4), some (.int x5)]) (st1 := [.int x3, .ref x4]) (M1 := mjTo Z120) (fun _ _ => rfl) ?_
      have hk127 : mjIs x4 211 0 = true := by
        by_cases q9 : mjIs x4 211 0 = true
        · exact q9
        · rw [if_neg q9] at h; cases h
      rw [if_pos hk127] at h
      refine pG_putI (ci := 0) (f := 3) rfl rfl rfl rfl hk127 (by decide) ?_
      rw [mjLet] at h
      generalize zSi Z120 x4 3 x3 = Z128 at h ⊢
      refine pG_many 2 (pc1 := 120) (L1 := [some (.ref 0), some (.int x1), some (.int x2), some (.int x3), some (.ref x4), some (.int x5)]) (st1 := [.ref 0]) (M1 := mjTo Z128) (fun _ _ => rfl) ?_
      cases hq129 : f151_settleAll  Z128 with
      | none => rw [hq129] at h; cases h
      | some w =>
        obtain ⟨v130, Z131⟩ := w
        rw [hq129, mjBd_some] at h
        refine pG_callV (k2 := 138) (As := [.ref 0]) (rest := []) rfl rfl rfl rfl rfl (by rfl) (by decide) (by decide) (f151_settleAll_ok hq129) ?_
        rintro r9 M9 ⟨rfl, rfl⟩
        show pG 162 123 [some (.ref 0), some (.int x1), some (.int x2), some (.int x3), some (.ref x4), some (.int x5)] [] (mjTo Z131) _
        refine pG_many 1 (pc1 := 125) (L1 := [some (.ref 0), some (.int x1), some (.int x2), some (.int x3), some (.ref x4), some (.int x5)]) (st1 := [.int x5]) (M1 := mjTo Z131) (fun _ _ => rfl) ?_
        simp only [Option.some.injEq, Prod.mk.injEq] at h
        obtain ⟨rfl, rfl⟩ := h
        exact pG_ret (r := some (.int x5)) rfl ⟨rfl, rfl⟩
def f190_appeal_j68 (x1 : Int32) (x2 : Int32) (x3 : Int32) (x4 : Nat) (x5 : Int32) (s0 : Int32) (s1 : Int32) (Z : mjZt) : Option (Int32 × mjZt) :=
  if mjCmp .gt s0 s1 = true then
    some ((-1), Z)
  else
    if mjCmp .ne x3 x5 = true then
      if mjCmp .ne x2 0 = true then
        f190_appeal_j92 x1 x2 x3 x4 x5 1 Z
      else
        f190_appeal_j92 x1 x2 x3 x4 x5 0 Z
    else
      some ((-1), Z)
theorem f190_appeal_j68_ok (x1 : Int32) (x2 : Int32) (x3 : Int32) (x4 : Nat) (x5 : Int32) (s0 : Int32) (s1 : Int32) (Z : mjZt) (v9 : Int32) (Z9 : mjZt) (h : f190_appeal_j68 x1 x2 x3 x4 x5 s0 s1 Z = some (v9, Z9)) : pG 162 68 [some (.ref 0), some (.int x1), some (.int x2), some (.int x3), some (.ref x4), some (.int x5)] [.int s1, .int s0] (mjTo Z) (fun r M1 => r = some (.int v9) ∧ M1 = mjTo Z9) := by
  unfold f190_appeal_j68 at h
  by_cases hc115 : mjCmp .gt s0 s1 = true
  · rw [if_pos hc115] at h
    refine pG_cmt (t := 77) rfl rfl hc115 ?_
    refine pG_many 1 (pc1 := 78) (L1 := [some (.ref 0), some (.int x1), some (.int x2), some (.int x3), some (.ref x4), some (.int x5)]) (st1 := [.int ((-1))]) (M1 := mjTo Z) (fun _ _ => rfl) ?_
    simp only [Option.some.injEq, Prod.mk.injEq] at h
    obtain ⟨rfl, rfl⟩ := h
    exact pG_ret (r := some (.int ((-1)))) rfl ⟨rfl, rfl⟩
  · rw [if_neg hc115] at h
    refine pG_cmf (t := 77) rfl rfl hc115 ?_
    refine pG_many 2 (pc1 := 74) (L1 := [some (.ref 0), some (.int x1), some (.int x2), some (.int x3), some (.ref x4), some (.int x5)]) (st1 := [.int x5, .int x3]) (M1 := mjTo Z) (fun _ _ => rfl) ?_
    by_cases hc116 : mjCmp .ne x3 x5 = true
    · rw [if_pos hc116] at h
      refine pG_cmt (t := 79) rfl rfl hc116 ?_
      refine pG_many 1 (pc1 := 80) (L1 := [some (.ref 0), some (.int x1), some (.int x2), some (.int x3), some (.ref x4), some (.int x5)]) (st1 := [.ref 0]) (M1 := mjTo Z) (fun _ _ => rfl) ?_
      refine pG_getR (ci := 11) (f := 9) (b := 209) rfl rfl rfl (by rfl) (by decide) rfl ?_
      refine pG_many 1 (pc1 := 84) (L1 := [some (.ref 0), some (.int x1), some (.int x2), some (.int x3), some (.ref x4), some (.int x5)]) (st1 := [.int x2, .ref 209]) (M1 := mjTo Z) (fun _ _ => rfl) ?_
      by_cases hc117 : mjCmp .ne x2 0 = true
      · rw [if_pos hc117] at h
        refine pG_ift (t := 91) rfl rfl hc117 ?_
        refine pG_many 1 (pc1 := 92) (L1 := [some (.ref 0), some (.int x1), some (.int x2), some (.int x3), some (.ref x4), some (.int x5)]) (st1 := [.int 1, .ref 209]) (M1 := mjTo Z) (fun _ _ => rfl) ?_
        exact f190_appeal_j92_ok x1 x2 x3 x4 x5 1 Z v9 Z9 h
      · rw [if_neg hc117] at h
        refine pG_iff (t := 91) rfl rfl hc117 ?_
        refine pG_many 2 (pc1 := 92) (L1 := [some (.ref 0), some (.int x1), some (.int x2), some (.int x3), some (.ref x4), some (.int x5)]) (st1 := [.int 0, .ref 209]) (M1 := mjTo Z) (fun _ _ => rfl) ?_
        exact f190_appeal_j92_ok x1 x2 x3 x4 x5 0 Z v9 Z9 h
    · rw [if_neg hc116] at h
      refine pG_cmf (t := 79) rfl rfl hc116 ?_
      refine pG_many 1 (pc1 := 78) (L1 := [some (.ref 0), some (.int x1), some (.int x2), some (.int x3), some (.ref x4), some (.int x5)]) (st1 := [.int ((-1))]) (M1 := mjTo Z) (fun _ _ => rfl) ?_
      simp only [Option.some.injEq, Prod.mk.injEq] at h
      obtain ⟨rfl, rfl⟩ := h
      exact pG_ret (r := some (.int ((-1)))) rfl ⟨rfl, rfl⟩
def f190_appeal_j53 (x1 : Int32) (x2 : Int32) (x3 : Int32) (x4 : Nat) (s0 : Int32) (Z : mjZt) : Option (Int32 × mjZt) :=
  if mjCmp .ne x2 0 = true then
    f190_appeal_j68 x1 x2 x3 x4 s0 x3 99 Z
  else
    f190_appeal_j68 x1 x2 x3 x4 s0 x3 9999 Z
theorem f190_appeal_j53_ok (x1 : Int32) (x2 : Int32) (x3 : Int32) (x4 : Nat) (s0 : Int32) (d5 : Option Value) (Z : mjZt) (v9 : Int32) (Z9 : mjZt) (h : f190_appeal_j53 x1 x2 x3 x4 s0 Z = some (v9, Z9)) : pG 162 53 [some (.ref 0), some (.int x1), some (.int x2), some (.int x3), some (.ref x4), d5] [.int s0] (mjTo Z) (fun r M1 => r = some (.int v9) ∧ M1 = mjTo Z9) := by
  unfold f190_appeal_j53 at h
  refine pG_many 3 (pc1 := 57) (L1 := [some (.ref 0), some (.int x1), some (.int x2), some (.int x3), some (.ref x4), some (.int s0)]) (st1 := [.int x2, .int x3]) (M1 := mjTo Z) (fun _ _ => rfl) ?_
  by_cases hc114 : mjCmp .ne x2 0 = true
  · rw [if_pos hc114] at h
    refine pG_ift (t := 66) rfl rfl hc114 ?_
    refine pG_many 1 (pc1 := 68) (L1 := [some (.ref 0), some (.int x1), some (.int x2), some (.int x3), some (.ref x4), some (.int s0)]) (st1 := [.int 99, .int x3]) (M1 := mjTo Z) (fun _ _ => rfl) ?_
    exact f190_appeal_j68_ok x1 x2 x3 x4 s0 x3 99 Z v9 Z9 h
  · rw [if_neg hc114] at h
    refine pG_iff (t := 66) rfl rfl hc114 ?_
    refine pG_many 2 (pc1 := 68) (L1 := [some (.ref 0), some (.int x1), some (.int x2), some (.int x3), some (.ref x4), some (.int s0)]) (st1 := [.int 9999, .int x3]) (M1 := mjTo Z) (fun _ _ => rfl) ?_
    exact f190_appeal_j68_ok x1 x2 x3 x4 s0 x3 9999 Z v9 Z9 h
def f190_appeal (p0 : Int32) (p1 : Int32) (p2 : Int32) (Z : mjZt) : Option (Int32 × mjZt) :=
  if mjIs Z.2.2.1 211 2 = true then
  mjBp (f18_wasTold Z.2.2.1 p0 Z) fun v103 =>
  if mjCmp .eq v103 0 = true then
    some ((-1), Z)
  else
    if mjCmp .lt p1 0 = true then
      some ((-1), Z)
    else
      if mjCmp .gt p1 1 = true then
        some ((-1), Z)
      else
        if mjCmp .ge p2 0 = true then
          mjBp (f6_deed Z.2.2.1 p0 Z) fun v110 =>
          if mjCmp .ne p1 0 = true then
            if mjIs v110 211 0 = true then
            f190_appeal_j53 p0 p1 p2 v110 (Z.1 v110 4) Z
            else none
          else
            if mjIs v110 211 0 = true then
            f190_appeal_j53 p0 p1 p2 v110 (Z.1 v110 3) Z
            else none
        else
          some ((-1), Z)
  else none
theorem f190_appeal_ok {p0 : Int32} {p1 : Int32} {p2 : Int32} {Z : mjZt} {v9 : Int32} {Z9 : mjZt} (h : f190_appeal p0 p1 p2 Z = some (v9, Z9)) : pG 162 0 (mjEnt [.ref 0, .int p0, .int p1, .int p2] (mjML 162)) [] (mjTo Z) (fun r M1 => r = some (.int v9) ∧ M1 = mjTo Z9) := by
  unfold f190_appeal at h
  show pG 162 0 [some (.ref 0), some (.int p0), some (.int p1), some (.int p2), none, none] [] (mjTo Z) _
  refine pG_many 1 (pc1 := 1) (L1 := [some (.ref 0), some (.int p0), some (.int p1), some (.int p2), none, none]) (st1 := [.ref 0]) (M1 := mjTo Z) (fun _ _ => rfl) ?_
  refine pG_getR (ci := 11) (f := 2) (b := Z.2.2.1) rfl rfl rfl (by rfl) (by decide) rfl ?_
  refine pG_many 1 (pc1 := 5) (L1 := [some (.ref 0), some (.int p0), some (.int p1), some (.int p2), none, none]) (st1 := [.int p0, .ref Z.2.2.1]) (M1 := mjTo Z) (fun _ _ => rfl) ?_
  have hk101 : mjIs Z.2.2.1 211 2 = true := by
    by_cases q9 : mjIs Z.2.2.1 211 2 = true
    · exact q9
    · rw [if_neg q9] at h; cases h
  rw [if_pos hk101] at h
  cases hq102 : f18_wasTold Z.2.2.1 p0 Z with
  | none => rw [hq102] at h; cases h
  | some v103 =>
    rw [hq102, mjBp_some] at h
    refine pG_callV (k2 := 18) (As := [.ref Z.2.2.1, .int p0]) (rest := []) rfl rfl rfl rfl rfl (mjRcv_is hk101 (by decide)) (by decide) (by decide) (f18_wasTold_ok hq102) ?_
    rintro r9 M9 ⟨rfl, rfl⟩
    show pG 162 8 [some (.ref 0), some (.int p0), some (.int p1), some (.int p2), none, none] [.int v103] (mjTo Z) _
    by_cases hc105 : mjCmp .eq v103 0 = true
    · rw [if_pos hc105] at h
      refine pG_ift (t := 24) rfl rfl hc105 ?_
      refine pG_many 1 (pc1 := 25) (L1 := [some (.ref 0), some (.int p0), some (.int p1), some (.int p2), none, none]) (st1 := [.int ((-1))]) (M1 := mjTo Z) (fun _ _ => rfl) ?_
      simp only [Option.some.injEq, Prod.mk.injEq] at h
      obtain ⟨rfl, rfl⟩ := h
      exact pG_ret (r := some (.int ((-1)))) rfl ⟨rfl, rfl⟩
    · rw [if_neg hc105] at h
      refine pG_iff (t := 24) rfl rfl hc105 ?_
      refine pG_many 1 (pc1 := 12) (L1 := [some (.ref 0), some (.int p0), some (.int p1), some (.int p2), none, none]) (st1 := [.int p1]) (M1 := mjTo Z) (fun _ _ => rfl) ?_
      by_cases hc106 : mjCmp .lt p1 0 = true
      · rw [if_pos hc106] at h
        refine pG_ift (t := 24) rfl rfl hc106 ?_
        refine pG_many 1 (pc1 := 25) (L1 := [some (.ref 0), some (.int p0), some (.int p1), some (.int p2), none, none]) (st1 := [.int ((-1))]) (M1 := mjTo Z) (fun _ _ => rfl) ?_
        simp only [Option.some.injEq, Prod.mk.injEq] at h
        obtain ⟨rfl, rfl⟩ := h
        exact pG_ret (r := some (.int ((-1)))) rfl ⟨rfl, rfl⟩
      · rw [if_neg hc106] at h
        refine pG_iff (t := 24) rfl rfl hc106 ?_
        refine pG_many 2 (pc1 := 17) (L1 := [some (.ref 0), some (.int p0), some (.int p1), some (.int p2), none, none]) (st1 := [.int 1, .int p1]) (M1 := mjTo Z) (fun _ _ => rfl) ?_
        by_cases hc107 : mjCmp .gt p1 1 = true
        · rw [if_pos hc107] at h
          refine pG_cmt (t := 24) rfl rfl hc107 ?_
          refine pG_many 1 (pc1 := 25) (L1 := [some (.ref 0), some (.int p0), some (.int p1), some (.int p2), none, none]) (st1 := [.int ((-1))]) (M1 := mjTo Z) (fun _ _ => rfl) ?_
          simp only [Option.some.injEq, Prod.mk.injEq] at h
          obtain ⟨rfl, rfl⟩ := h
          exact pG_ret (r := some (.int ((-1)))) rfl ⟨rfl, rfl⟩
        · rw [if_neg hc107] at h
          refine pG_cmf (t := 24) rfl rfl hc107 ?_
          refine pG_many 1 (pc1 := 21) (L1 := [some (.ref 0), some (.int p0), some (.int p1), some (.int p2), none, none]) (st1 := [.int p2]) (M1 := mjTo Z) (fun _ _ => rfl) ?_
          by_cases hc108 : mjCmp .ge p2 0 = true
          · rw [if_pos hc108] at h
            refine pG_ift (t := 26) rfl rfl hc108 ?_
            refine pG_many 1 (pc1 := 27) (L1 := [some (.ref 0), some (.int p0), some (.int p1), some (.int p2), none, none]) (st1 := [.ref 0]) (M1 := mjTo Z) (fun _ _ => rfl) ?_
            refine pG_getR (ci := 11) (f := 2) (b := Z.2.2.1) rfl rfl rfl (by rfl) (by decide) rfl ?_
            refine pG_many 1 (pc1 := 31) (L1 := [some (.ref 0), some (.int p0), some (.int p1), some (.int p2), none, none]) (st1 := [.int p0, .ref Z.2.2.1]) (M1 := mjTo Z) (fun _ _ => rfl) ?_
            cases hq109 : f6_deed Z.2.2.1 p0 Z with
            | none => rw [hq109] at h; cases h
            | some v110 =>
              rw [hq109, mjBp_some] at h
              refine pG_callV (k2 := 6) (As := [.ref Z.2.2.1, .int p0]) (rest := []) rfl rfl rfl rfl rfl (mjRcv_is hk101 (by decide)) (by decide) (by decide) (f6_deed_ok hq109) ?_
              rintro r9 M9 ⟨rfl, rfl⟩
              show pG 162 34 [some (.ref 0), some (.int p0), some (.int p1), some (.int p2), none, none] [.ref v110] (mjTo Z) _
              refine pG_many 2 (pc1 := 37) (L1 := [some (.ref 0), some (.int p0), some (.int p1), some (.int p2), some (.ref v110), none]) (st1 := [.int p1]) (M1 := mjTo Z) (fun _ _ => rfl) ?_
              by_cases hc112 : mjCmp .ne p1 0 = true
              · rw [if_pos hc112] at h
                refine pG_ift (t := 48) rfl rfl hc112 ?_
                refine pG_many 1 (pc1 := 50) (L1 := [some (.ref 0), some (.int p0), some (.int p1), some (.int p2), some (.ref v110), none]) (st1 := [.ref v110]) (M1 := mjTo Z) (fun _ _ => rfl) ?_
                have hk113 : mjIs v110 211 0 = true := by
                  by_cases q9 : mjIs v110 211 0 = true
                  · exact q9
                  · rw [if_neg q9] at h; cases h
                rw [if_pos hk113] at h
                refine pG_getI (ci := 0) (f := 4) rfl rfl (Or.inl rfl) hk113 (by decide) ?_
                exact f190_appeal_j53_ok p0 p1 p2 v110 (Z.1 v110 4) none Z v9 Z9 h
              · rw [if_neg hc112] at h
                refine pG_iff (t := 48) rfl rfl hc112 ?_
                refine pG_many 1 (pc1 := 42) (L1 := [some (.ref 0), some (.int p0), some (.int p1), some (.int p2), some (.ref v110), none]) (st1 := [.ref v110]) (M1 := mjTo Z) (fun _ _ => rfl) ?_
                have hk132 : mjIs v110 211 0 = true := by
                  by_cases q9 : mjIs v110 211 0 = true
                  · exact q9
                  · rw [if_neg q9] at h; cases h
                rw [if_pos hk132] at h
                refine pG_getI (ci := 0) (f := 3) rfl rfl (Or.inl rfl) hk132 (by decide) ?_
                refine pG_many 1 (pc1 := 53) (L1 := [some (.ref 0), some (.int p0), some (.int p1), some (.int p2), some (.ref v110), none]) (st1 := [.int (Z.1 v110 3)]) (M1 := mjTo Z) (fun _ _ => rfl) ?_
                exact f190_appeal_j53_ok p0 p1 p2 v110 (Z.1 v110 3) none Z v9 Z9 h
          · rw [if_neg hc108] at h
            refine pG_iff (t := 26) rfl rfl hc108 ?_
            refine pG_many 1 (pc1 := 25) (L1 := [some (.ref 0), some (.int p0), some (.int p1), some (.int p2), none, none]) (st1 := [.int ((-1))]) (M1 := mjTo Z) (fun _ _ => rfl) ?_
            simp only [Option.some.injEq, Prod.mk.injEq] at h
            obtain ⟨rfl, rfl⟩ := h
            exact pG_ret (r := some (.int ((-1)))) rfl ⟨rfl, rfl⟩
def f191_waive (p0 : Int32) (Z : mjZt) : Option (Int32 × mjZt) :=
  if mjIs Z.2.2.1 211 2 = true then
  mjBp (f18_wasTold Z.2.2.1 p0 Z) fun v103 =>
  if mjCmp .ne v103 0 = true then
    mjBd (f4_keep 2 p0 0 0 0 Z) fun _ Z108 =>
    if mjIs Z108.2.2.1 211 2 = true then
    mjLet (zSl Z108 Z108.2.2.1 11 ((Z108.2.1 Z108.2.2.1 11) ^^^ (1 <<< (Int32.toInt64 p0 &&& 63)))) fun Z110 =>
    mjBd (f151_settleAll  Z110) fun _ Z113 =>
    if mjIs Z113.2.2.1 211 2 = true then
    if mjCmp .ne (lg_cmp (((Z113.2.1 Z113.2.2.1 11) >>> (Int32.toInt64 p0 &&& 63)) &&& 1) 1) 0 = true then
      some (0, Z113)
    else
      some (1, Z113)
    else none
    else none
  else
    some ((-1), Z)
  else none
theorem f191_waive_ok {p0 : Int32} {Z : mjZt} {v9 : Int32} {Z9 : mjZt} (h : f191_waive p0 Z = some (v9, Z9)) : pG 163 0 (mjEnt [.ref 0, .int p0] (mjML 163)) [] (mjTo Z) (fun r M1 => r = some (.int v9) ∧ M1 = mjTo Z9) := by
  unfold f191_waive at h
  show pG 163 0 [some (.ref 0), some (.int p0)] [] (mjTo Z) _
  refine pG_many 1 (pc1 := 1) (L1 := [some (.ref 0), some (.int p0)]) (st1 := [.ref 0]) (M1 := mjTo Z) (fun _ _ => rfl) ?_
  refine pG_getR (ci := 11) (f := 2) (b := Z.2.2.1) rfl rfl rfl (by rfl) (by decide) rfl ?_
  refine pG_many 1 (pc1 := 5) (L1 := [some (.ref 0), some (.int p0)]) (st1 := [.int p0, .ref Z.2.2.1]) (M1 := mjTo Z) (fun _ _ => rfl) ?_
  have hk101 : mjIs Z.2.2.1 211 2 = true := by
    by_cases q9 : mjIs Z.2.2.1 211 2 = true
    · exact q9
    · rw [if_neg q9] at h; cases h
  rw [if_pos hk101] at h
  cases hq102 : f18_wasTold Z.2.2.1 p0 Z with
  | none => rw [hq102] at h; cases h
  | some v103 =>
    rw [hq102, mjBp_some] at h
    refine pG_callV (k2 := 18) (As := [.ref Z.2.2.1, .int p0]) (rest := []) rfl rfl rfl rfl rfl (mjRcv_is hk101 (by decide)) (by decide) (by decide) (f18_wasTold_ok hq102) ?_
    rintro r9 M9 ⟨rfl, rfl⟩
    show pG 163 8 [some (.ref 0), some (.int p0)] [.int v103] (mjTo Z) _
    by_cases hc105 : mjCmp .ne v103 0 = true
    · rw [if_pos hc105] at h
      refine pG_ift (t := 13) rfl rfl hc105 ?_
      refine pG_many 1 (pc1 := 14) (L1 := [some (.ref 0), some (.int p0)]) (st1 := [.ref 0]) (M1 := mjTo Z) (fun _ _ => rfl) ?_
      refine pG_getR (ci := 11) (f := 9) (b := 209) rfl rfl rfl (by rfl) (by decide) rfl ?_
      refine pG_many 5 (pc1 := 22) (L1 := [some (.ref 0), some (.int p0)]) (st1 := [.int 0, .int 0, .int 0, .int p0, .int 2, .ref 209]) (M1 := mjTo Z) (fun _ _ => rfl) ?_
      cases hq106 : f4_keep 2 p0 0 0 0 Z with
      | none => rw [hq106] at h; cases h
      | some w =>
        obtain ⟨v107, Z108⟩ := w
        rw [hq106, mjBd_some] at h
        refine pG_callV (k2 := 4) (As := [.ref 209, .int 2, .int p0, .int 0, .int 0, .int 0]) (rest := []) rfl rfl rfl rfl rfl (by rfl) (by decide) (by decide) (f4_keep_ok hq106) ?_
        rintro r9 M9 ⟨rfl, rfl⟩
        show pG 163 25 [some (.ref 0), some (.int p0)] [] (mjTo Z108) _
        refine pG_many 1 (pc1 := 26) (L1 := [some (.ref 0), some (.int p0)]) (st1 := [.ref 0]) (M1 := mjTo Z108) (fun _ _ => rfl) ?_
        refine pG_getR (ci := 11) (f := 2) (b := Z108.2.2.1) rfl rfl rfl (by rfl) (by decide) rfl ?_
        refine pG_many 1 (pc1 := 30) (L1 := [some (.ref 0), some (.int p0)]) (st1 := [.ref Z108.2.2.1, .ref Z108.2.2.1]) (M1 := mjTo Z108) (fun _ _ => rfl) ?_
        have hk109 : mjIs Z108.2.2.1 211 2 = true := by
          by_cases q9 : mjIs Z108.2.2.1 211 2 = true
          · exact q9
          · rw [if_neg q9] at h; cases h
        rw [if_pos hk109] at h
        refine pG_getL (ci := 2) (f := 11) rfl rfl rfl hk109 (by decide) ?_
        refine pG_many 4 (pc1 := 37) (L1 := [some (.ref 0), some (.int p0)]) (st1 := [.long ((Z108.2.1 Z108.2.2.1 11) ^^^ (1 <<< (Int32.toInt64 p0 &&& 63))), .ref Z108.2.2.1]) (M1 := mjTo Z108) (fun _ _ => rfl) ?_
        refine pG_putL (ci := 2) (f := 11) rfl rfl rfl rfl hk109 (by decide) ?_
        rw [mjLet] at h
        generalize zSl Z108 Z108.2.2.1 11 ((Z108.2.1 Z108.2.2.1 11) ^^^ (1 <<< (Int32.toInt64 p0 &&& 63))) = Z110 at h ⊢
        refine pG_many 1 (pc1 := 41) (L1 := [some (.ref 0), some (.int p0)]) (st1 := [.ref 0]) (M1 := mjTo Z110) (fun _ _ => rfl) ?_
        cases hq111 : f151_settleAll  Z110 with
        | none => rw [hq111] at h; cases h
        | some w =>
          obtain ⟨v112, Z113⟩ := w
          rw [hq111, mjBd_some] at h
          refine pG_callV (k2 := 138) (As := [.ref 0]) (rest := []) rfl rfl rfl rfl rfl (by rfl) (by decide) (by decide) (f151_settleAll_ok hq111) ?_
          rintro r9 M9 ⟨rfl, rfl⟩
          show pG 163 44 [some (.ref 0), some (.int p0)] [] (mjTo Z113) _
          refine pG_many 1 (pc1 := 45) (L1 := [some (.ref 0), some (.int p0)]) (st1 := [.ref 0]) (M1 := mjTo Z113) (fun _ _ => rfl) ?_
          refine pG_getR (ci := 11) (f := 2) (b := Z113.2.2.1) rfl rfl rfl (by rfl) (by decide) rfl ?_
          have hk114 : mjIs Z113.2.2.1 211 2 = true := by
            by_cases q9 : mjIs Z113.2.2.1 211 2 = true
            · exact q9
            · rw [if_neg q9] at h; cases h
          rw [if_pos hk114] at h
          refine pG_getL (ci := 2) (f := 11) rfl rfl rfl hk114 (by decide) ?_
          refine pG_many 6 (pc1 := 57) (L1 := [some (.ref 0), some (.int p0)]) (st1 := [.int (lg_cmp (((Z113.2.1 Z113.2.2.1 11) >>> (Int32.toInt64 p0 &&& 63)) &&& 1) 1)]) (M1 := mjTo Z113) (fun _ _ => rfl) ?_
          by_cases hc115 : mjCmp .ne (lg_cmp (((Z113.2.1 Z113.2.2.1 11) >>> (Int32.toInt64 p0 &&& 63)) &&& 1) 1) 0 = true
          · rw [if_pos hc115] at h
            refine pG_ift (t := 64) rfl rfl hc115 ?_
            refine pG_many 1 (pc1 := 65) (L1 := [some (.ref 0), some (.int p0)]) (st1 := [.int 0]) (M1 := mjTo Z113) (fun _ _ => rfl) ?_
            simp only [Option.some.injEq, Prod.mk.injEq] at h
            obtain ⟨rfl, rfl⟩ := h
            exact pG_ret (r := some (.int 0)) rfl ⟨rfl, rfl⟩
          · rw [if_neg hc115] at h
            refine pG_iff (t := 64) rfl rfl hc115 ?_
            refine pG_many 2 (pc1 := 65) (L1 := [some (.ref 0), some (.int p0)]) (st1 := [.int 1]) (M1 := mjTo Z113) (fun _ _ => rfl) ?_
            simp only [Option.some.injEq, Prod.mk.injEq] at h
            obtain ⟨rfl, rfl⟩ := h
            exact pG_ret (r := some (.int 1)) rfl ⟨rfl, rfl⟩
    · rw [if_neg hc105] at h
      refine pG_iff (t := 13) rfl rfl hc105 ?_
      refine pG_many 1 (pc1 := 12) (L1 := [some (.ref 0), some (.int p0)]) (st1 := [.int ((-1))]) (M1 := mjTo Z) (fun _ _ => rfl) ?_
      simp only [Option.some.injEq, Prod.mk.injEq] at h
      obtain ⟨rfl, rfl⟩ := h
      exact pG_ret (r := some (.int ((-1)))) rfl ⟨rfl, rfl⟩
def f192_measure_j73 (x1 : Int32) (x2 : Int32) (x3 : Int32) (x4 : Int32) (x5 : Int32) (x6 : Nat) (s0 : Int32) (Z : mjZt) : Option (Int32 × mjZt) :=
  if mjCmp .lt x4 (-x5) = true then
    some ((-1), Z)
  else
    if mjCmp .gt x4 x5 = true then
      some ((-1), Z)
    else
      if mjCmp .eq s0 0 = true then
        if mjIs x6 211 7 = true then
        mjBp (f108_tenthsOf x6 x2 Z) fun v124 =>
        mjBp (f32_metresOf x6 x2 Z) fun v127 =>
        mjBd (f4_keep 3 x1 x2 v124 v127 Z) fun _ Z131 =>
        mjBd (f9_setLeg x6 x2 x3 x4 Z131) fun _ Z134 =>
        mjBd (f151_settleAll  Z134) fun _ Z137 =>
        mjBp (f99_time x6 Z137) fun v139 =>
        some (v139, Z137)
        else none
      else
        some ((-1), Z)
theorem f192_measure_j73_ok (x1 : Int32) (x2 : Int32) (x3 : Int32) (x4 : Int32) (x5 : Int32) (x6 : Nat) (s0 : Int32) (d7 : Option Value) (Z : mjZt) (v9 : Int32) (Z9 : mjZt) (h : f192_measure_j73 x1 x2 x3 x4 x5 x6 s0 Z = some (v9, Z9)) : pG 164 73 [some (.ref 0), some (.int x1), some (.int x2), some (.int x3), some (.int x4), some (.int x5), some (.ref x6), d7] [.int s0] (mjTo Z) (fun r M1 => r = some (.int v9) ∧ M1 = mjTo Z9) := by
  unfold f192_measure_j73 at h
  refine pG_many 4 (pc1 := 80) (L1 := [some (.ref 0), some (.int x1), some (.int x2), some (.int x3), some (.int x4), some (.int x5), some (.ref x6), some (.int s0)]) (st1 := [.int (-x5), .int x4]) (M1 := mjTo Z) (fun _ _ => rfl) ?_
  by_cases hc119 : mjCmp .lt x4 (-x5) = true
  · rw [if_pos hc119] at h
    refine pG_cmt (t := 95) rfl rfl hc119 ?_
    refine pG_many 1 (pc1 := 96) (L1 := [some (.ref 0), some (.int x1), some (.int x2), some (.int x3), some (.int x4), some (.int x5), some (.ref x6), some (.int s0)]) (st1 := [.int ((-1))]) (M1 := mjTo Z) (fun _ _ => rfl) ?_
    simp only [Option.some.injEq, Prod.mk.injEq] at h
    obtain ⟨rfl, rfl⟩ := h
    exact pG_ret (r := some (.int ((-1)))) rfl ⟨rfl, rfl⟩
  · rw [if_neg hc119] at h
    refine pG_cmf (t := 95) rfl rfl hc119 ?_
    refine pG_many 2 (pc1 := 87) (L1 := [some (.ref 0), some (.int x1), some (.int x2), some (.int x3), some (.int x4), some (.int x5), some (.ref x6), some (.int s0)]) (st1 := [.int x5, .int x4]) (M1 := mjTo Z) (fun _ _ => rfl) ?_
    by_cases hc120 : mjCmp .gt x4 x5 = true
    · rw [if_pos hc120] at h
      refine pG_cmt (t := 95) rfl rfl hc120 ?_
      refine pG_many 1 (pc1 := 96) (L1 := [some (.ref 0), some (.int x1), some (.int x2), some (.int x3), some (.int x4), some (.int x5), some (.ref x6), some (.int s0)]) (st1 := [.int ((-1))]) (M1 := mjTo Z) (fun _ _ => rfl) ?_
      simp only [Option.some.injEq, Prod.mk.injEq] at h
      obtain ⟨rfl, rfl⟩ := h
      exact pG_ret (r := some (.int ((-1)))) rfl ⟨rfl, rfl⟩
    · rw [if_neg hc120] at h
      refine pG_cmf (t := 95) rfl rfl hc120 ?_
      refine pG_many 1 (pc1 := 92) (L1 := [some (.ref 0), some (.int x1), some (.int x2), some (.int x3), some (.int x4), some (.int x5), some (.ref x6), some (.int s0)]) (st1 := [.int s0]) (M1 := mjTo Z) (fun _ _ => rfl) ?_
      by_cases hc121 : mjCmp .eq s0 0 = true
      · rw [if_pos hc121] at h
        refine pG_ift (t := 97) rfl rfl hc121 ?_
        refine pG_many 1 (pc1 := 98) (L1 := [some (.ref 0), some (.int x1), some (.int x2), some (.int x3), some (.int x4), some (.int x5), some (.ref x6), some (.int s0)]) (st1 := [.ref 0]) (M1 := mjTo Z) (fun _ _ => rfl) ?_
        refine pG_getR (ci := 11) (f := 9) (b := 209) rfl rfl rfl (by rfl) (by decide) rfl ?_
        refine pG_many 5 (pc1 := 107) (L1 := [some (.ref 0), some (.int x1), some (.int x2), some (.int x3), some (.int x4), some (.int x5), some (.ref x6), some (.int s0)]) (st1 := [.int x2, .ref x6, .int x2, .int x1, .int 3, .ref 209]) (M1 := mjTo Z) (fun _ _ => rfl) ?_
        have hk122 : mjIs x6 211 7 = true := by
          by_cases q9 : mjIs x6 211 7 = true
          · exact q9
          · rw [if_neg q9] at h; cases h
        rw [if_pos hk122] at h
        cases hq123 : f108_tenthsOf x6 x2 Z with
        | none => rw [hq123] at h; cases h
        | some v124 =>
          rw [hq123, mjBp_some] at h
          refine pG_callV (k2 := 100) (As := [.ref x6, .int x2]) (rest := [.int x2, .int x1, .int 3, .ref 209]) rfl rfl rfl rfl rfl (mjRcv_is hk122 (by decide)) (by decide) (by decide) (f108_tenthsOf_ok hq123) ?_
          rintro r9 M9 ⟨rfl, rfl⟩
          show pG 164 110 [some (.ref 0), some (.int x1), some (.int x2), some (.int x3), some (.int x4), some (.int x5), some (.ref x6), some (.int s0)] [.int v124, .int x2, .int x1, .int 3, .ref 209] (mjTo Z) _
          refine pG_many 2 (pc1 := 113) (L1 := [some (.ref 0), some (.int x1), some (.int x2), some (.int x3), some (.int x4), some (.int x5), some (.ref x6), some (.int s0)]) (st1 := [.int x2, .ref x6, .int v124, .int x2, .int x1, .int 3, .ref 209]) (M1 := mjTo Z) (fun _ _ => rfl) ?_
          cases hq126 : f32_metresOf x6 x2 Z with
          | none => rw [hq126] at h; cases h
          | some v127 =>
            rw [hq126, mjBp_some] at h
            refine pG_callV (k2 := 32) (As := [.ref x6, .int x2]) (rest := [.int v124, .int x2, .int x1, .int 3, .ref 209]) rfl rfl rfl rfl rfl (mjRcv_is hk122 (by decide)) (by decide) (by decide) (f32_metresOf_ok hq126) ?_
            rintro r9 M9 ⟨rfl, rfl⟩
            show pG 164 116 [some (.ref 0), some (.int x1), some (.int x2), some (.int x3), some (.int x4), some (.int x5), some (.ref x6), some (.int s0)] [.int v127, .int v124, .int x2, .int x1, .int 3, .ref 209] (mjTo Z) _
            cases hq129 : f4_keep 3 x1 x2 v124 v127 Z with
            | none => rw [hq129] at h; cases h
            | some w =>
              obtain ⟨v130, Z131⟩ := w
              rw [hq129, mjBd_some] at h
              refine pG_callV (k2 := 4) (As := [.ref 209, .int 3, .int x1, .int x2, .int v124, .int v127]) (rest := []) rfl rfl rfl rfl rfl (by rfl) (by decide) (by decide) (f4_keep_ok hq129) ?_
              rintro r9 M9 ⟨rfl, rfl⟩
              show pG 164 119 [some (.ref 0), some (.int x1), some (.int x2), some (.int x3), some (.int x4), some (.int x5), some (.ref x6), some (.int s0)] [] (mjTo Z131) _
              refine pG_many 4 (pc1 := 125) (L1 := [some (.ref 0), some (.int x1), some (.int x2), some (.int x3), some (.int x4), some (.int x5), some (.ref x6), some (.int s0)]) (st1 := [.int x4, .int x3, .int x2, .ref x6]) (M1 := mjTo Z131) (fun _ _ => rfl) ?_
              cases hq132 : f9_setLeg x6 x2 x3 x4 Z131 with
              | none => rw [hq132] at h; cases h
              | some w =>
                obtain ⟨v133, Z134⟩ := w
                rw [hq132, mjBd_some] at h
                refine pG_callV (k2 := 9) (As := [.ref x6, .int x2, .int x3, .int x4]) (rest := []) rfl rfl rfl rfl rfl (mjRcv_is hk122 (by decide)) (by decide) (by decide) (f9_setLeg_ok hq132) ?_
                rintro r9 M9 ⟨rfl, rfl⟩
                show pG 164 128 [some (.ref 0), some (.int x1), some (.int x2), some (.int x3), some (.int x4), some (.int x5), some (.ref x6), some (.int s0)] [] (mjTo Z134) _
                refine pG_many 1 (pc1 := 129) (L1 := [some (.ref 0), some (.int x1), some (.int x2), some (.int x3), some (.int x4), some (.int x5), some (.ref x6), some (.int s0)]) (st1 := [.ref 0]) (M1 := mjTo Z134) (fun _ _ => rfl) ?_
                cases hq135 : f151_settleAll  Z134 with
                | none => rw [hq135] at h; cases h
                | some w =>
                  obtain ⟨v136, Z137⟩ := w
                  rw [hq135, mjBd_some] at h
                  refine pG_callV (k2 := 138) (As := [.ref 0]) (rest := []) rfl rfl rfl rfl rfl (by rfl) (by decide) (by decide) (f151_settleAll_ok hq135) ?_
                  rintro r9 M9 ⟨rfl, rfl⟩
                  show pG 164 132 [some (.ref 0), some (.int x1), some (.int x2), some (.int x3), some (.int x4), some (.int x5), some (.ref x6), some (.int s0)] [] (mjTo Z137) _
                  refine pG_many 1 (pc1 := 134) (L1 := [some (.ref 0), some (.int x1), some (.int x2), some (.int x3), some (.int x4), some (.int x5), some (.ref x6), some (.int s0)]) (st1 := [.ref x6]) (M1 := mjTo Z137) (fun _ _ => rfl) ?_
                  cases hq138 : f99_time x6 Z137 with
                  | none => rw [hq138] at h; cases h
                  | some v139 =>
                    rw [hq138, mjBp_some] at h
                    refine pG_callV (k2 := 96) (As := [.ref x6]) (rest := []) rfl rfl rfl rfl rfl (mjRcv_is hk122 (by decide)) (by decide) (by decide) (f99_time_ok hq138) ?_
                    rintro r9 M9 ⟨rfl, rfl⟩
                    show pG 164 137 [some (.ref 0), some (.int x1), some (.int x2), some (.int x3), some (.int x4), some (.int x5), some (.ref x6), some (.int s0)] [.int v139] (mjTo Z137) _
                    simp only [Option.some.injEq, Prod.mk.injEq] at h
                    obtain ⟨rfl, rfl⟩ := h
                    exact pG_ret (r := some (.int v139)) rfl ⟨rfl, rfl⟩
      · rw [if_neg hc121] at h
        refine pG_iff (t := 97) rfl rfl hc121 ?_
        refine pG_many 1 (pc1 := 96) (L1 := [some (.ref 0), some (.int x1), some (.int x2), some (.int x3), some (.int x4), some (.int x5), some (.ref x6), some (.int s0)]) (st1 := [.int ((-1))]) (M1 := mjTo Z) (fun _ _ => rfl) ?_
        simp only [Option.some.injEq, Prod.mk.injEq] at h
        obtain ⟨rfl, rfl⟩ := h
        exact pG_ret (r := some (.int ((-1)))) rfl ⟨rfl, rfl⟩
def f192_measure_j72 (x1 : Int32) (x2 : Int32) (x3 : Int32) (x4 : Int32) (x5 : Int32) (x6 : Nat) (Z : mjZt) : Option (Int32 × mjZt) :=
  f192_measure_j73 x1 x2 x3 x4 x5 x6 0 Z
theorem f192_measure_j72_ok (x1 : Int32) (x2 : Int32) (x3 : Int32) (x4 : Int32) (x5 : Int32) (x6 : Nat) (d7 : Option Value) (Z : mjZt) (v9 : Int32) (Z9 : mjZt) (h : f192_measure_j72 x1 x2 x3 x4 x5 x6 Z = some (v9, Z9)) : pG 164 72 [some (.ref 0), some (.int x1), some (.int x2), some (.int x3), some (.int x4), some (.int x5), some (.ref x6), d7] [] (mjTo Z) (fun r M1 => r = some (.int v9) ∧ M1 = mjTo Z9) := by
  unfold f192_measure_j72 at h
  refine pG_many 1 (pc1 := 73) (L1 := [some (.ref 0), some (.int x1), some (.int x2), some (.int x3), some (.int x4), some (.int x5), some (.ref x6), d7]) (st1 := [.int 0]) (M1 := mjTo Z) (fun _ _ => rfl) ?_
  exact f192_measure_j73_ok x1 x2 x3 x4 x5 x6 0 d7 Z v9 Z9 h
def f192_measure (p0 : Int32) (p1 : Int32) (p2 : Int32) (p3 : Int32) (Z : mjZt) : Option (Int32 × mjZt) :=
  if mjIs Z.2.2.1 211 2 = true then
  mjBp (f19_hasLeg Z.2.2.1 p0 p1 Z) fun v103 =>
  if mjCmp .eq v103 0 = true then
    some ((-1), Z)
  else
    if mjCmp .lt p2 20 = true then
      some ((-1), Z)
    else
      if mjCmp .le p2 999 = true then
        mjBp (f30_mostMetres Z.2.2.1 p1 Z) fun v109 =>
        mjBp (f8_runner Z.2.2.1 p0 Z) fun v112 =>
        if mjIs v112 211 7 = true then
        mjBp (f108_tenthsOf v112 p1 Z) fun v116 =>
        if mjCmp .ne p2 v116 = true then
          f192_measure_j72 p0 p1 p2 p3 v109 v112 Z
        else
          mjBp (f32_metresOf v112 p1 Z) fun v142 =>
          if mjCmp .ne p3 v142 = true then
            f192_measure_j72 p0 p1 p2 p3 v109 v112 Z
          else
            f192_measure_j73 p0 p1 p2 p3 v109 v112 1 Z
        else none
      else
        some ((-1), Z)
  else none
theorem f192_measure_ok {p0 : Int32} {p1 : Int32} {p2 : Int32} {p3 : Int32} {Z : mjZt} {v9 : Int32} {Z9 : mjZt} (h : f192_measure p0 p1 p2 p3 Z = some (v9, Z9)) : pG 164 0 (mjEnt [.ref 0, .int p0, .int p1, .int p2, .int p3] (mjML 164)) [] (mjTo Z) (fun r M1 => r = some (.int v9) ∧ M1 = mjTo Z9) := by
  unfold f192_measure at h
  show pG 164 0 [some (.ref 0), some (.int p0), some (.int p1), some (.int p2), some (.int p3), none, none, none] [] (mjTo Z) _
  refine pG_many 1 (pc1 := 1) (L1 := [some (.ref 0), some (.int p0), some (.int p1), some (.int p2), some (.int p3), none, none, none]) (st1 := [.ref 0]) (M1 := mjTo Z) (fun _ _ => rfl) ?_
  refine pG_getR (ci := 11) (f := 2) (b := Z.2.2.1) rfl rfl rfl (by rfl) (by decide) rfl ?_
  refine pG_many 2 (pc1 := 6) (L1 := [some (.ref 0), some (.int p0), some (.int p1), some (.int p2), some (.int p3), none, none, none]) (st1 := [.int p1, .int p0, .ref Z.2.2.1]) (M1 := mjTo Z) (fun _ _ => rfl) ?_
  have hk101 : mjIs Z.2.2.1 211 2 = true := by
    by_cases q9 : mjIs Z.2.2.1 211 2 = true
    · exact q9
    · rw [if_neg q9] at h; cases h
  rw [if_pos hk101] at h
  cases hq102 : f19_hasLeg Z.2.2.1 p0 p1 Z with
  | none => rw [hq102] at h; cases h
  | some v103 =>
    rw [hq102, mjBp_some] at h
    refine pG_callV (k2 := 19) (As := [.ref Z.2.2.1, .int p0, .int p1]) (rest := []) rfl rfl rfl rfl rfl (mjRcv_is hk101 (by decide)) (by decide) (by decide) (f19_hasLeg_ok hq102) ?_
    rintro r9 M9 ⟨rfl, rfl⟩
    show pG 164 9 [some (.ref 0), some (.int p0), some (.int p1), some (.int p2), some (.int p3), none, none, none] [.int v103] (mjTo Z) _
    by_cases hc105 : mjCmp .eq v103 0 = true
    · rw [if_pos hc105] at h
      refine pG_ift (t := 25) rfl rfl hc105 ?_
      refine pG_many 1 (pc1 := 26) (L1 := [some (.ref 0), some (.int p0), some (.int p1), some (.int p2), some (.int p3), none, none, none]) (st1 := [.int ((-1))]) (M1 := mjTo Z) (fun _ _ => rfl) ?_
      simp only [Option.some.injEq, Prod.mk.injEq] at h
      obtain ⟨rfl, rfl⟩ := h
      exact pG_ret (r := some (.int ((-1)))) rfl ⟨rfl, rfl⟩
    · rw [if_neg hc105] at h
      refine pG_iff (t := 25) rfl rfl hc105 ?_
      refine pG_many 2 (pc1 := 15) (L1 := [some (.ref 0), some (.int p0), some (.int p1), some (.int p2), some (.int p3), none, none, none]) (st1 := [.int 20, .int p2]) (M1 := mjTo Z) (fun _ _ => rfl) ?_
      by_cases hc106 : mjCmp .lt p2 20 = true
      · rw [if_pos hc106] at h
        refine pG_cmt (t := 25) rfl rfl hc106 ?_
        refine pG_many 1 (pc1 := 26) (L1 := [some (.ref 0), some (.int p0), some (.int p1), some (.int p2), some (.int p3), none, none, none]) (st1 := [.int ((-1))]) (M1 := mjTo Z) (fun _ _ => rfl) ?_
        simp only [Option.some.injEq, Prod.mk.injEq] at h
        obtain ⟨rfl, rfl⟩ := h
        exact pG_ret (r := some (.int ((-1)))) rfl ⟨rfl, rfl⟩
      · rw [if_neg hc106] at h
        refine pG_cmf (t := 25) rfl rfl hc106 ?_
        refine pG_many 2 (pc1 := 22) (L1 := [some (.ref 0), some (.int p0), some (.int p1), some (.int p2), some (.int p3), none, none, none]) (st1 := [.int 999, .int p2]) (M1 := mjTo Z) (fun _ _ => rfl) ?_
        by_cases hc107 : mjCmp .le p2 999 = true
        · rw [if_pos hc107] at h
          refine pG_cmt (t := 27) rfl rfl hc107 ?_
          refine pG_many 1 (pc1 := 28) (L1 := [some (.ref 0), some (.int p0), some (.int p1), some (.int p2), some (.int p3), none, none, none]) (st1 := [.ref 0]) (M1 := mjTo Z) (fun _ _ => rfl) ?_
          refine pG_getR (ci := 11) (f := 2) (b := Z.2.2.1) rfl rfl rfl (by rfl) (by decide) rfl ?_
          refine pG_many 1 (pc1 := 32) (L1 := [some (.ref 0), some (.int p0), some (.int p1), some (.int p2), some (.int p3), none, none, none]) (st1 := [.int p1, .ref Z.2.2.1]) (M1 := mjTo Z) (fun _ _ => rfl) ?_
          cases hq108 : f30_mostMetres Z.2.2.1 p1 Z with
          | none => rw [hq108] at h; cases h
          | some v109 =>
            rw [hq108, mjBp_some] at h
            refine pG_callV (k2 := 30) (As := [.ref Z.2.2.1, .int p1]) (rest := []) rfl rfl rfl rfl rfl (mjRcv_is hk101 (by decide)) (by decide) (by decide) (f30_mostMetres_ok hq108) ?_
            rintro r9 M9 ⟨rfl, rfl⟩
            show pG 164 35 [some (.ref 0), some (.int p0), some (.int p1), some (.int p2), some (.int p3), none, none, none] [.int v109] (mjTo Z) _
            refine pG_many 2 (pc1 := 38) (L1 := [some (.ref 0), some (.int p0), some (.int p1), some (.int p2), some (.int p3), some (.int v109), none, none]) (st1 := [.ref 0]) (M1 := mjTo Z) (fun _ _ => rfl) ?_
            refine pG_getR (ci := 11) (f := 2) (b := Z.2.2.1) rfl rfl rfl (by rfl) (by decide) rfl ?_
            refine pG_many 1 (pc1 := 42) (L1 := [some (.ref 0), some (.int p0), some (.int p1), some (.int p2), some (.int p3), some (.int v109), none, none]) (st1 := [.int p0, .ref Z.2.2.1]) (M1 := mjTo Z) (fun _ _ => rfl) ?_
            cases hq111 : f8_runner Z.2.2.1 p0 Z with
            | none => rw [hq111] at h; cases h
            | some v112 =>
              rw [hq111, mjBp_some] at h
              refine pG_callV (k2 := 8) (As := [.ref Z.2.2.1, .int p0]) (rest := []) rfl rfl rfl rfl rfl (mjRcv_is hk101 (by decide)) (by decide) (by decide) (f8_runner_ok hq111) ?_
              rintro r9 M9 ⟨rfl, rfl⟩
              show pG 164 45 [some (.ref 0), some (.int p0), some (.int p1), some (.int p2), some (.int p3), some (.int v109), none, none] [.ref v112] (mjTo Z) _
              refine pG_many 4 (pc1 := 51) (L1 := [some (.ref 0), some (.int p0), some (.int p1), some (.int p2), some (.int p3), some (.int v109), some (.ref v112), none]) (st1 := [.int p1, .ref v112, .int p2]) (M1 := mjTo Z) (fun _ _ => rfl) ?_
              have hk114 : mjIs v112 211 7 = true := by
                by_cases q9 : mjIs v112 211 7 = true
                · exact q9
                · rw [if_neg q9] at h; cases h
              rw [if_pos hk114] at h
              cases hq115 : f108_tenthsOf v112 p1 Z with
              | none => rw [hq115] at h; cases h
              | some v116 =>
                rw [hq115, mjBp_some] at h
                refine pG_callV (k2 := 100) (As := [.ref v112, .int p1]) (rest := [.int p2]) rfl rfl rfl rfl rfl (mjRcv_is hk114 (by decide)) (by decide) (by decide) (f108_tenthsOf_ok hq115) ?_
                rintro r9 M9 ⟨rfl, rfl⟩
                show pG 164 54 [some (.ref 0), some (.int p0), some (.int p1), some (.int p2), some (.int p3), some (.int v109), some (.ref v112), none] [.int v116, .int p2] (mjTo Z) _
                by_cases hc118 : mjCmp .ne p2 v116 = true
                · rw [if_pos hc118] at h
                  refine pG_cmt (t := 72) rfl rfl hc118 ?_
                  exact f192_measure_j72_ok p0 p1 p2 p3 v109 v112 none Z v9 Z9 h
                · rw [if_neg hc118] at h
                  refine pG_cmf (t := 72) rfl rfl hc118 ?_
                  refine pG_many 3 (pc1 := 62) (L1 := [some (.ref 0), some (.int p0), some (.int p1), some (.int p2), some (.int p3), some (.int v109), some (.ref v112), none]) (st1 := [.int p1, .ref v112, .int p3]) (M1 := mjTo Z) (fun _ _ => rfl) ?_
                  cases hq141 : f32_metresOf v112 p1 Z with
                  | none => rw [hq141] at h; cases h
                  | some v142 =>
                    rw [hq141, mjBp_some] at h
                    refine pG_callV (k2 := 32) (As := [.ref v112, .int p1]) (rest := [.int p3]) rfl rfl rfl rfl rfl (mjRcv_is hk114 (by decide)) (by decide) (by decide) (f32_metresOf_ok hq141) ?_
                    rintro r9 M9 ⟨rfl, rfl⟩
                    show pG 164 65 [some (.ref 0), some (.int p0), some (.int p1), some (.int p2), some (.int p3), some (.int v109), some (.ref v112), none] [.int v142, .int p3] (mjTo Z) _
                    by_cases hc144 : mjCmp .ne p3 v142 = true
                    · rw [if_pos hc144] at h
                      refine pG_cmt (t := 72) rfl rfl hc144 ?_
                      exact f192_measure_j72_ok p0 p1 p2 p3 v109 v112 none Z v9 Z9 h
                    · rw [if_neg hc144] at h
                      refine pG_cmf (t := 72) rfl rfl hc144 ?_
                      refine pG_many 2 (pc1 := 73) (L1 := [some (.ref 0), some (.int p0), some (.int p1), some (.int p2), some (.int p3), some (.int v109), some (.ref v112), none]) (st1 := [.int 1]) (M1 := mjTo Z) (fun _ _ => rfl) ?_
                      exact f192_measure_j73_ok p0 p1 p2 p3 v109 v112 1 none Z v9 Z9 h
        · rw [if_neg hc107] at h
          refine pG_cmf (t := 27) rfl rfl hc107 ?_
          refine pG_many 1 (pc1 := 26) (L1 := [some (.ref 0), some (.int p0), some (.int p1), some (.int p2), some (.int p3), none, none, none]) (st1 := [.int ((-1))]) (M1 := mjTo Z) (fun _ _ => rfl) ?_
          simp only [Option.some.injEq, Prod.mk.injEq] at h
          obtain ⟨rfl, rfl⟩ := h
          exact pG_ret (r := some (.int ((-1)))) rfl ⟨rfl, rfl⟩
def f193_undo  (Z : mjZt) : Option (Int32 × mjZt) :=
  if mjCmp .ne (Z.1 209 2) 0 = true then
    mjBd (f10_takeBack Z.2.2.1 Z) fun _ Z104 =>
    mjBd (f151_settleAll  Z104) fun _ Z107 =>
    some (Z107.1 209 2, Z107)
  else
    some ((-1), Z)
theorem f193_undo_ok  {Z : mjZt} {v9 : Int32} {Z9 : mjZt} (h : f193_undo  Z = some (v9, Z9)) : pG 165 0 (mjEnt [.ref 0] (mjML 165)) [] (mjTo Z) (fun r M1 => r = some (.int v9) ∧ M1 = mjTo Z9) := by
  unfold f193_undo at h
  show pG 165 0 [some (.ref 0)] [] (mjTo Z) _
  refine pG_many 1 (pc1 := 1) (L1 := [some (.ref 0)]) (st1 := [.ref 0]) (M1 := mjTo Z) (fun _ _ => rfl) ?_
  refine pG_getR (ci := 11) (f := 9) (b := 209) rfl rfl rfl (by rfl) (by decide) rfl ?_
  refine pG_getI (ci := 1) (f := 2) rfl rfl (Or.inl rfl) (by rfl) (by decide) ?_
  by_cases hc101 : mjCmp .ne (Z.1 209 2) 0 = true
  · rw [if_pos hc101] at h
    refine pG_ift (t := 12) rfl rfl hc101 ?_
    refine pG_many 1 (pc1 := 13) (L1 := [some (.ref 0)]) (st1 := [.ref 0]) (M1 := mjTo Z) (fun _ _ => rfl) ?_
    refine pG_getR (ci := 11) (f := 9) (b := 209) rfl rfl rfl (by rfl) (by decide) rfl ?_
    refine pG_many 1 (pc1 := 17) (L1 := [some (.ref 0)]) (st1 := [.ref 0, .ref 209]) (M1 := mjTo Z) (fun _ _ => rfl) ?_
    refine pG_getR (ci := 11) (f := 2) (b := Z.2.2.1) rfl rfl rfl (by rfl) (by decide) rfl ?_
    cases hq102 : f10_takeBack Z.2.2.1 Z with
    | none => rw [hq102] at h; cases h
    | some w =>
      obtain ⟨v103, Z104⟩ := w
      rw [hq102, mjBd_some] at h
      refine pG_callV (k2 := 10) (As := [.ref 209, .ref Z.2.2.1]) (rest := []) rfl rfl rfl rfl rfl (by rfl) (by decide) (by decide) (f10_takeBack_ok hq102) ?_
      rintro r9 M9 ⟨rfl, rfl⟩
      show pG 165 23 [some (.ref 0)] [] (mjTo Z104) _
      refine pG_many 1 (pc1 := 24) (L1 := [some (.ref 0)]) (st1 := [.ref 0]) (M1 := mjTo Z104) (fun _ _ => rfl) ?_
      cases hq105 : f151_settleAll  Z104 with
      | none => rw [hq105] at h; cases h
      | some w =>
        obtain ⟨v106, Z107⟩ := w
        rw [hq105, mjBd_some] at h
        refine pG_callV (k2 := 138) (As := [.ref 0]) (rest := []) rfl rfl rfl rfl rfl (by rfl) (by decide) (by decide) (f151_settleAll_ok hq105) ?_
        rintro r9 M9 ⟨rfl, rfl⟩
        show pG 165 27 [some (.ref 0)] [] (mjTo Z107) _
        refine pG_many 1 (pc1 := 28) (L1 := [some (.ref 0)]) (st1 := [.ref 0]) (M1 := mjTo Z107) (fun _ _ => rfl) ?_
        refine pG_getR (ci := 11) (f := 9) (b := 209) rfl rfl rfl (by rfl) (by decide) rfl ?_
        refine pG_getI (ci := 1) (f := 2) rfl rfl (Or.inl rfl) (by rfl) (by decide) ?_
        simp only [Option.some.injEq, Prod.mk.injEq] at h
        obtain ⟨rfl, rfl⟩ := h
        exact pG_ret (r := some (.int (Z107.1 209 2))) rfl ⟨rfl, rfl⟩
  · rw [if_neg hc101] at h
    refine pG_iff (t := 12) rfl rfl hc101 ?_
    refine pG_many 1 (pc1 := 11) (L1 := [some (.ref 0)]) (st1 := [.int ((-1))]) (M1 := mjTo Z) (fun _ _ => rfl) ?_
    simp only [Option.some.injEq, Prod.mk.injEq] at h
    obtain ⟨rfl, rfl⟩ := h
    exact pG_ret (r := some (.int ((-1)))) rfl ⟨rfl, rfl⟩
def f684_cell (p1 : Int32) (Z : mjZt) : Option Int32 :=
  if mjCmp .ge p1 (Z.1 2000001 0) = true then
    some ((1664525 * p1) + 14492)
  else
    if 0 ≤ (p1).toInt ∧ (p1).toInt < (Z.1 2000001 0).toInt then
    some (Z.1 2000000 (mjIx p1))
    else none
set_option maxRecDepth 100000 in
theorem f684_cell_ok {p1 : Int32} {Z : mjZt} {v9 : Int32} (h : f684_cell p1 Z = some v9) : pG 184 0 (mjEnt [.ref 2000000, .int p1] (mjML 184)) [] (mjTo Z) (fun r M1 => r = some (.int v9) ∧ M1 = mjTo Z) := by
  unfold f684_cell at h
  show pG 184 0 [some (.ref 2000000), some (.int p1)] [] (mjTo Z) _
  refine pG_many 2 (pc1 := 2) (L1 := [some (.ref 2000000), some (.int p1)]) (st1 := [.ref 2000000, .int p1]) (M1 := mjTo Z) (fun _ _ => rfl) ?_
  refine pG_slen rfl ?_
  by_cases hc101 : mjCmp .ge p1 (Z.1 2000001 0) = true
  · rw [if_pos hc101] at h
    refine pG_cmt (t := 12) rfl rfl hc101 ?_
    refine pG_many 5 (pc1 := 20) (L1 := [some (.ref 2000000), some (.int p1)]) (st1 := [.int ((1664525 * p1) + 14492)]) (M1 := mjTo Z) (fun _ _ => rfl) ?_
    simp only [Option.some.injEq] at h
    subst h
    exact pG_ret (r := some (.int ((1664525 * p1) + 14492))) rfl ⟨rfl, rfl⟩
  · rw [if_neg hc101] at h
    refine pG_cmf (t := 12) rfl rfl hc101 ?_
    refine pG_many 2 (pc1 := 8) (L1 := [some (.ref 2000000), some (.int p1)]) (st1 := [.int p1, .ref 2000000]) (M1 := mjTo Z) (fun _ _ => rfl) ?_
    have hk102 : 0 ≤ (p1).toInt ∧ (p1).toInt < (Z.1 2000001 0).toInt := by
      by_cases q9 : 0 ≤ (p1).toInt ∧ (p1).toInt < (Z.1 2000001 0).toInt
      · exact q9
      · rw [if_neg q9] at h; cases h
    rw [if_pos hk102] at h
    refine pG_scr rfl hk102 ?_
    refine pG_many 1 (pc1 := 20) (L1 := [some (.ref 2000000), some (.int p1)]) (st1 := [.int (Z.1 2000000 (mjIx p1))]) (M1 := mjTo Z) (fun _ _ => rfl) ?_
    simp only [Option.some.injEq] at h
    subst h
    exact pG_ret (r := some (.int (Z.1 2000000 (mjIx p1)))) rfl ⟨rfl, rfl⟩
def f685_pick (p1 : Int32) (p2 : Int32) (Z : mjZt) : Option Int32 :=
  mjBp (f684_cell p1 Z) fun v102 =>
  if ¬ p2 = 0 then
  some ((v102 &&& 2147483647) - (v102 &&& 2147483647) / p2 * p2)
  else none
set_option maxRecDepth 100000 in
theorem f685_pick_ok {p1 : Int32} {p2 : Int32} {Z : mjZt} {v9 : Int32} (h : f685_pick p1 p2 Z = some v9) : pG 185 0 (mjEnt [.ref 2000000, .int p1, .int p2] (mjML 185)) [] (mjTo Z) (fun r M1 => r = some (.int v9) ∧ M1 = mjTo Z) := by
  unfold f685_pick at h
  show pG 185 0 [some (.ref 2000000), some (.int p1), some (.int p2)] [] (mjTo Z) _
  refine pG_many 2 (pc1 := 2) (L1 := [some (.ref 2000000), some (.int p1), some (.int p2)]) (st1 := [.int p1, .ref 2000000]) (M1 := mjTo Z) (fun _ _ => rfl) ?_
  cases hq101 : f684_cell p1 Z with
  | none => rw [hq101] at h; cases h
  | some v102 =>
    rw [hq101, mjBp_some] at h
    refine pG_call (k2 := 184) (As := [.ref 2000000, .int p1]) (rest := []) (fun _ _ => rfl) (by decide) (by decide) (f684_cell_ok hq101) ?_
    rintro r9 M9 ⟨rfl, rfl⟩
    show pG 185 5 [some (.ref 2000000), some (.int p1), some (.int p2)] [.int v102] (mjTo Z) _
    refine pG_many 3 (pc1 := 9) (L1 := [some (.ref 2000000), some (.int p1), some (.int p2)]) (st1 := [.int p2, .int (v102 &&& 2147483647)]) (M1 := mjTo Z) (fun _ _ => rfl) ?_
    have hk104 : ¬ p2 = 0 := by
      by_cases q9 : ¬ p2 = 0
      · exact q9
      · rw [if_neg q9] at h; cases h
    rw [if_pos hk104] at h
    refine pG_rem rfl hk104 ?_
    simp only [Option.some.injEq] at h
    subst h
    exact pG_ret (r := some (.int ((v102 &&& 2147483647) - (v102 &&& 2147483647) / p2 * p2))) rfl ⟨rfl, rfl⟩
def f700_runs_h94 (K : Int32 → Int32 → Int32 → Int32 → Int32 → mjZt → Option Int32) : Nat → Int32 → Int32 → Int32 → Int32 → Int32 → Int32 → Int32 → mjZt → Option Int32
  | 0, _, _, _, _, _, _, _, _ => none
  | n + 1, x2, x3, x4, x5, x6, x7, x8, Z =>
    if mjCmp .gt x8 x5 = true then
      K x2 x3 x4 x6 x7 Z
    else
      mjBp (f168_leg x3 x8 0 Z) fun v134 =>
      mjBp (f154_about 1 Z) fun v137 =>
      mjBp (f168_leg x3 x8 2 Z) fun v140 =>
      mjBp (f168_leg x3 x8 1 Z) fun v143 =>
      if mjCmp .ne v143 (x7 + v134) = true then
        some 0
      else
        mjBp (f159_place x3 (x7 + v134) Z) fun v147 =>
        if mjCmp .ne v147 (10 * ((x8 * v137) + v140)) = true then
          some 0
        else
          mjBp (f160_comes x3 (10 * ((x8 * v137) + v140)) Z) fun v151 =>
          if mjCmp .eq v151 (x7 + v134) = true then
            mjBp (f154_about 0 Z) fun v155 =>
            if mjCmp .ge x8 v155 = true then
              f700_runs_h94 K n x2 x3 x4 x5 x6 (x7 + v134) (x8 + 1) Z
            else
              mjBp (f169_inBox x3 (x7 + v134) Z) fun v159 =>
              mjBp (f154_about 2 Z) fun v165 =>
              if mjCmp .lt v140 (-v165) = true then
                if mjCmp .eq v159 0 = true then
                  f700_runs_h94 K n x2 x3 x4 x5 x6 (x7 + v134) (x8 + 1) Z
                else
                  some 0
              else
                mjBp (f154_about 3 Z) fun v173 =>
                if mjCmp .gt v140 v173 = true then
                  if mjCmp .eq v159 0 = true then
                    f700_runs_h94 K n x2 x3 x4 x5 x6 (x7 + v134) (x8 + 1) Z
                  else
                    some 0
                else
                  if mjCmp .eq v159 1 = true then
                    f700_runs_h94 K n x2 x3 x4 x5 x6 (x7 + v134) (x8 + 1) Z
                  else
                    some 0
          else
            some 0
set_option maxRecDepth 100000 in
theorem f700_runs_h94_ok (K : Int32 → Int32 → Int32 → Int32 → Int32 → mjZt → Option Int32) (hK : ∀ (x2 : Int32) (x3 : Int32) (x4 : Int32) (x6 : Int32) (x7 : Int32) (d5 d8 d9 d10 : Option Value) (Z : mjZt) (v9 : Int32), K x2 x3 x4 x6 x7 Z = some v9 → pG 200 241 [some (.ref 0), some (.ref 2000000), some (.int x2), some (.int x3), some (.int x4), d5, some (.int x6), some (.int x7), d8, d9, d10] [] (mjTo Z) (fun r M1 => r = some (.int v9) ∧ M1 = mjTo Z)) : ∀ (n : Nat) (x2 : Int32) (x3 : Int32) (x4 : Int32) (x5 : Int32) (x6 : Int32) (x7 : Int32) (x8 : Int32) (d9 d10 : Option Value) (Z : mjZt) (v9 : Int32), f700_runs_h94 K n x2 x3 x4 x5 x6 x7 x8 Z = some v9 → pG 200 94 [some (.ref 0), some (.ref 2000000), some (.int x2), some (.int x3), some (.int x4), some (.int x5), some (.int x6), some (.int x7), some (.int x8), d9, d10] [] (mjTo Z) (fun r M1 => r = some (.int v9) ∧ M1 = mjTo Z)
  | 0, x2, x3, x4, x5, x6, x7, x8, d9, d10, Z, v9, h => by rw [f700_runs_h94] at h; cases h
  | n + 1, x2, x3, x4, x5, x6, x7, x8, d9, d10, Z, v9, h => by
      rw [f700_runs_h94] at h
      refine pG_many 2 (pc1 := 98) (L1 := [some (.ref 0), some (.ref 2000000), some (.int x2), some (.int x3), some (.int x4), some (.int x5), some (.int x6), some (.int x7), some (.int x8), d9, d10]) (st1 := [.int x5, .int x8]) (M1 := mjTo Z) (fun _ _ => rfl) ?_
      by_cases hc132 : mjCmp .gt x8 x5 = true
      · rw [if_pos hc132] at h
        refine pG_cmt (t := 241) rfl rfl hc132 ?_
        exact hK x2 x3 x4 x6 x7 (some (.int x5)) (some (.int x8)) d9 d10 Z v9 h
      · rw [if_neg hc132] at h
        refine pG_cmf (t := 241) rfl rfl hc132 ?_
        refine pG_many 5 (pc1 := 108) (L1 := [some (.ref 0), some (.ref 2000000), some (.int x2), some (.int x3), some (.int x4), some (.int x5), some (.int x6), some (.int x7), some (.int x8), d9, d10]) (st1 := [.int 0, .int x8, .int x3, .ref 0, .int x7]) (M1 := mjTo Z) (fun _ _ => rfl) ?_
        cases hq133 : f168_leg x3 x8 0 Z with
        | none => rw [hq133] at h; cases h
        | some v134 =>
          rw [hq133, mjBp_some] at h
          refine pG_callV (k2 := 147) (As := [.ref 0, .int x3, .int x8, .int 0]) (rest := [.int x7]) rfl rfl rfl rfl rfl (by rfl) (by decide) (by decide) (f168_leg_ok hq133) ?_
          rintro r9 M9 ⟨rfl, rfl⟩
          show pG 200 111 [some (.ref 0), some (.ref 2000000), some (.int x2), some (.int x3), some (.int x4), some (.int x5), some (.int x6), some (.int x7), some (.int x8), d9, d10] [.int v134, .int x7] (mjTo Z) _
          refine pG_many 6 (pc1 := 120) (L1 := [some (.ref 0), some (.ref 2000000), some (.int x2), some (.int x3), some (.int x4), some (.int x5), some (.int x6), some (.int (x7 + v134)), some (.int x8), d9, d10]) (st1 := [.int 1, .ref 0, .int x8, .int 10]) (M1 := mjTo Z) (fun _ _ => rfl) ?_
          cases hq136 : f154_about 1 Z with
          | none => rw [hq136] at h; cases h
          | some v137 =>
            rw [hq136, mjBp_some] at h
            refine pG_callV (k2 := 140) (As := [.ref 0, .int 1]) (rest := [.int x8, .int 10]) rfl rfl rfl rfl rfl (by rfl) (by decide) (by decide) (f154_about_ok hq136) ?_
            rintro r9 M9 ⟨rfl, rfl⟩
            show pG 200 123 [some (.ref 0), some (.ref 2000000), some (.int x2), some (.int x3), some (.int x4), some (.int x5), some (.int x6), some (.int (x7 + v134)), some (.int x8), d9, d10] [.int v137, .int x8, .int 10] (mjTo Z) _
            refine pG_many 5 (pc1 := 129) (L1 := [some (.ref 0), some (.ref 2000000), some (.int x2), some (.int x3), some (.int x4), some (.int x5), some (.int x6), some (.int (x7 + v134)), some (.int x8), d9, d10]) (st1 := [.int 2, .int x8, .int x3, .ref 0, .int (x8 * v137), .int 10]) (M1 := mjTo Z) (fun _ _ => rfl) ?_
            cases hq139 : f168_leg x3 x8 2 Z with
            | none => rw [hq139] at h; cases h
            | some v140 =>
              rw [hq139, mjBp_some] at h
              refine pG_callV (k2 := 147) (As := [.ref 0, .int x3, .int x8, .int 2]) (rest := [.int (x8 * v137), .int 10]) rfl rfl rfl rfl rfl (by rfl) (by decide) (by decide) (f168_leg_ok hq139) ?_
              rintro r9 M9 ⟨rfl, rfl⟩
              show pG 200 132 [some (.ref 0), some (.ref 2000000), some (.int x2), some (.int x3), some (.int x4), some (.int x5), some (.int x6), some (.int (x7 + v134)), some (.int x8), d9, d10] [.int v140, .int (x8 * v137), .int 10] (mjTo Z) _
              refine pG_many 7 (pc1 := 141) (L1 := [some (.ref 0), some (.ref 2000000), some (.int x2), some (.int x3), some (.int x4), some (.int x5), some (.int x6), some (.int (x7 + v134)), some (.int x8), some (.int (10 * ((x8 * v137) + v140))), d10]) (st1 := [.int 1, .int x8, .int x3, .ref 0]) (M1 := mjTo Z) (fun _ _ => rfl) ?_
              cases hq142 : f168_leg x3 x8 1 Z with
              | none => rw [hq142] at h; cases h
              | some v143 =>
                rw [hq142, mjBp_some] at h
                refine pG_callV (k2 := 147) (As := [.ref 0, .int x3, .int x8, .int 1]) (rest := []) rfl rfl rfl rfl rfl (by rfl) (by decide) (by decide) (f168_leg_ok hq142) ?_
                rintro r9 M9 ⟨rfl, rfl⟩
                show pG 200 144 [some (.ref 0), some (.ref 2000000), some (.int x2), some (.int x3), some (.int x4), some (.int x5), some (.int x6), some (.int (x7 + v134)), some (.int x8), some (.int (10 * ((x8 * v137) + v140))), d10] [.int v143] (mjTo Z) _
                refine pG_many 1 (pc1 := 146) (L1 := [some (.ref 0), some (.ref 2000000), some (.int x2), some (.int x3), some (.int x4), some (.int x5), some (.int x6), some (.int (x7 + v134)), some (.int x8), some (.int (10 * ((x8 * v137) + v140))), d10]) (st1 := [.int (x7 + v134), .int v143]) (M1 := mjTo Z) (fun _ _ => rfl) ?_
                by_cases hc145 : mjCmp .ne v143 (x7 + v134) = true
                · rw [if_pos hc145] at h
                  refine pG_cmt (t := 173) rfl rfl hc145 ?_
                  refine pG_many 1 (pc1 := 174) (L1 := [some (.ref 0), some (.ref 2000000), some (.int x2), some (.int x3), some (.int x4), some (.int x5), some (.int x6), some (.int (x7 + v134)), some (.int x8), some (.int (10 * ((x8 * v137) + v140))), d10]) (st1 := [.int 0]) (M1 := mjTo Z) (fun _ _ => rfl) ?_
                  simp only [Option.some.injEq] at h
                  subst h
                  exact pG_ret (r := some (.int 0)) rfl ⟨rfl, rfl⟩
                · rw [if_neg hc145] at h
                  refine pG_cmf (t := 173) rfl rfl hc145 ?_
                  refine pG_many 3 (pc1 := 153) (L1 := [some (.ref 0), some (.ref 2000000), some (.int x2), some (.int x3), some (.int x4), some (.int x5), some (.int x6), some (.int (x7 + v134)), some (.int x8), some (.int (10 * ((x8 * v137) + v140))), d10]) (st1 := [.int (x7 + v134), .int x3, .ref 0]) (M1 := mjTo Z) (fun _ _ => rfl) ?_
                  cases hq146 : f159_place x3 (x7 + v134) Z with
                  | none => rw [hq146] at h; cases h
                  | some v147 =>
                    rw [hq146, mjBp_some] at h
                    refine pG_callV (k2 := 144) (As := [.ref 0, .int x3, .int (x7 + v134)]) (rest := []) rfl rfl rfl rfl rfl (by rfl) (by decide) (by decide) (f159_place_ok hq146) ?_
                    rintro r9 M9 ⟨rfl, rfl⟩
                    show pG 200 156 [some (.ref 0), some (.ref 2000000), some (.int x2), some (.int x3), some (.int x4), some (.int x5), some (.int x6), some (.int (x7 + v134)), some (.int x8), some (.int (10 * ((x8 * v137) + v140))), d10] [.int v147] (mjTo Z) _
                    refine pG_many 1 (pc1 := 158) (L1 := [some (.ref 0), some (.ref 2000000), some (.int x2), some (.int x3), some (.int x4), some (.int x5), some (.int x6), some (.int (x7 + v134)), some (.int x8), some (.int (10 * ((x8 * v137) + v140))), d10]) (st1 := [.int (10 * ((x8 * v137) + v140)), .int v147]) (M1 := mjTo Z) (fun _ _ => rfl) ?_
                    by_cases hc149 : mjCmp .ne v147 (10 * ((x8 * v137) + v140)) = true
                    · rw [if_pos hc149] at h
                      refine pG_cmt (t := 173) rfl rfl hc149 ?_
                      refine pG_many 1 (pc1 := 174) (L1 := [some (.ref 0), some (.ref 2000000), some (.int x2), some (.int x3), some (.int x4), some (.int x5), some (.int x6), some (.int (x7 + v134)), some (.int x8), some (.int (10 * ((x8 * v137) + v140))), d10]) (st1 := [.int 0]) (M1 := mjTo Z) (fun _ _ => rfl) ?_
                      simp only [Option.some.injEq] at h
                      subst h
                      exact pG_ret (r := some (.int 0)) rfl ⟨rfl, rfl⟩
                    · rw [if_neg hc149] at h
                      refine pG_cmf (t := 173) rfl rfl hc149 ?_
                      refine pG_many 3 (pc1 := 165) (L1 := [some (.ref 0), some (.ref 2000000), some (.int x2), some (.int x3), some (.int x4), some (.int x5), some (.int x6), some (.int (x7 + v134)), some (.int x8), some (.int (10 * ((x8 * v137) + v140))), d10]) (st1 := [.int (10 * ((x8 * v137) + v140)), .int x3, .ref 0]) (M1 := mjTo Z) (fun _ _ => rfl) ?_
                      cases hq150 : f160_comes x3 (10 * ((x8 * v137) + v140)) Z with
                      | none => rw [hq150] at h; cases h
                      | some v151 =>
                        rw [hq150, mjBp_some] at h
                        refine pG_callV (k2 := 145) (As := [.ref 0, .int x3, .int (10 * ((x8 * v137) + v140))]) (rest := []) rfl rfl rfl rfl rfl (by rfl) (by decide) (by decide) (f160_comes_ok hq150) ?_
                        rintro r9 M9 ⟨rfl, rfl⟩
                        show pG 200 168 [some (.ref 0), some (.ref 2000000), some (.int x2), some (.int x3), some (.int x4), some (.int x5), some (.int x6), some (.int (x7 + v134)), some (.int x8), some (.int (10 * ((x8 * v137) + v140))), d10] [.int v151] (mjTo Z) _
                        refine pG_many 1 (pc1 := 170) (L1 := [some (.ref 0), some (.ref 2000000), some (.int x2), some (.int x3), some (.int x4), some (.int x5), some (.int x6), some (.int (x7 + v134)), some (.int x8), some (.int (10 * ((x8 * v137) + v140))), d10]) (st1 := [.int (x7 + v134), .int v151]) (M1 := mjTo Z) (fun _ _ => rfl) ?_
                        by_cases hc153 : mjCmp .eq v151 (x7 + v134) = true
                        · rw [if_pos hc153] at h
                          refine pG_cmt (t := 175) rfl rfl hc153 ?_
                          refine pG_many 3 (pc1 := 179) (L1 := [some (.ref 0), some (.ref 2000000), some (.int x2), some (.int x3), some (.int x4), some (.int x5), some (.int x6), some (.int (x7 + v134)), some (.int x8), some (.int (10 * ((x8 * v137) + v140))), d10]) (st1 := [.int 0, .ref 0, .int x8]) (M1 := mjTo Z) (fun _ _ => rfl) ?_
                          cases hq154 : f154_about 0 Z with
                          | none => rw [hq154] at h; cases h
                          | some v155 =>
                            rw [hq154, mjBp_some] at h
                            refine pG_callV (k2 := 140) (As := [.ref 0, .int 0]) (rest := [.int x8]) rfl rfl rfl rfl rfl (by rfl) (by decide) (by decide) (f154_about_ok hq154) ?_
                            rintro r9 M9 ⟨rfl, rfl⟩
                            show pG 200 182 [some (.ref 0), some (.ref 2000000), some (.int x2), some (.int x3), some (.int x4), some (.int x5), some (.int x6), some (.int (x7 + v134)), some (.int x8), some (.int (10 * ((x8 * v137) + v140))), d10] [.int v155, .int x8] (mjTo Z) _
                            by_cases hc157 : mjCmp .ge x8 v155 = true
                            · rw [if_pos hc157] at h
                              refine pG_cmt (t := 235) rfl rfl hc157 ?_
                              refine pG_many 2 (pc1 := 94) (L1 := [some (.ref 0), some (.ref 2000000), some (.int x2), some (.int x3), some (.int x4), some (.int x5), some (.int x6), some (.int (x7 + v134)), some (.int (x8 + 1)), some (.int (10 * ((x8 * v137) + v140))), d10]) (st1 := []) (M1 := mjTo Z) (fun _ _ => rfl) ?_
                              exact f700_runs_h94_ok K hK n x2 x3 x4 x5 x6 (x7 + v134) (x8 + 1) (some (.int (10 * ((x8 * v137) + v140)))) d10 Z v9 h
                            · rw [if_neg hc157] at h
                              refine pG_cmf (t := 235) rfl rfl hc157 ?_
                              refine pG_many 3 (pc1 := 189) (L1 := [some (.ref 0), some (.ref 2000000), some (.int x2), some (.int x3), some (.int x4), some (.int x5), some (.int x6), some (.int (x7 + v134)), some (.int x8), some (.int (10 * ((x8 * v137) + v140))), d10]) (st1 := [.int (x7 + v134), .int x3, .ref 0]) (M1 := mjTo Z) (fun _ _ => rfl) ?_
                              cases hq158 : f169_inBox x3 (x7 + v134) Z with
                              | none => rw [hq158] at h; cases h
                              | some v159 =>
                                rw [hq158, mjBp_some] at h
                                refine pG_callV (k2 := 148) (As := [.ref 0, .int x3, .int (x7 + v134)]) (rest := []) rfl rfl rfl rfl rfl (by rfl) (by decide) (by decide) (f169_inBox_ok hq158) ?_
                                rintro r9 M9 ⟨rfl, rfl⟩
                                show pG 200 192 [some (.ref 0), some (.ref 2000000), some (.int x2), some (.int x3), some (.int x4), some (.int x5), some (.int x6), some (.int (x7 + v134)), some (.int x8), some (.int (10 * ((x8 * v137) + v140))), d10] [.int v159] (mjTo Z) _
                                refine pG_many 4 (pc1 := 197) (L1 := [some (.ref 0), some (.ref 2000000), some (.int x2), some (.int x3), some (.int x4), some (.int x5), some (.int x6), some (.int (x7 + v134)), some (.int x8), some (.int (10 * ((x8 * v137) + v140))), d10]) (st1 := [.int 2, .int x8, .int x3, .ref 0, .int v159]) (M1 := mjTo Z) (fun _ _ => rfl) ?_
                                refine pG_callV (k2 := 147) (As := [.ref 0, .int x3, .int x8, .int 2]) (rest := [.int v159]) rfl rfl rfl rfl rfl (by rfl) (by decide) (by decide) (f168_leg_ok hq139) ?_
                                rintro r9 M9 ⟨rfl, rfl⟩
                                show pG 200 200 [some (.ref 0), some (.ref 2000000), some (.int x2), some (.int x3), some (.int x4), some (.int x5), some (.int x6), some (.int (x7 + v134)), some (.int x8), some (.int (10 * ((x8 * v137) + v140))), d10] [.int v140, .int v159] (mjTo Z) _
                                refine pG_many 2 (pc1 := 202) (L1 := [some (.ref 0), some (.ref 2000000), some (.int x2), some (.int x3), some (.int x4), some (.int x5), some (.int x6), some (.int (x7 + v134)), some (.int x8), some (.int (10 * ((x8 * v137) + v140))), d10]) (st1 := [.int 2, .ref 0, .int v140, .int v159]) (M1 := mjTo Z) (fun _ _ => rfl) ?_
                                cases hq164 : f154_about 2 Z with
                                | none => rw [hq164] at h; cases h
                                | some v165 =>
                                  rw [hq164, mjBp_some] at h
                                  refine pG_callV (k2 := 140) (As := [.ref 0, .int 2]) (rest := [.int v140, .int v159]) rfl rfl rfl rfl rfl (by rfl) (by decide) (by decide) (f154_about_ok hq164) ?_
                                  rintro r9 M9 ⟨rfl, rfl⟩
                                  show pG 200 205 [some (.ref 0), some (.ref 2000000), some (.int x2), some (.int x3), some (.int x4), some (.int x5), some (.int x6), some (.int (x7 + v134)), some (.int x8), some (.int (10 * ((x8 * v137) + v140))), d10] [.int v165, .int v140, .int v159] (mjTo Z) _
                                  refine pG_many 1 (pc1 := 206) (L1 := [some (.ref 0), some (.ref 2000000), some (.int x2), some (.int x3), some (.int x4), some (.int x5), some (.int x6), some (.int (x7 + v134)), some (.int x8), some (.int (10 * ((x8 * v137) + v140))), d10]) (st1 := [.int (-v165), .int v140, .int v159]) (M1 := mjTo Z) (fun _ _ => rfl) ?_
                                  by_cases hc167 : mjCmp .lt v140 (-v165) = true
                                  · rw [if_pos hc167] at h
                                    refine pG_cmt (t := 229) rfl rfl hc167 ?_
                                    refine pG_many 1 (pc1 := 230) (L1 := [some (.ref 0), some (.ref 2000000), some (.int x2), some (.int x3), some (.int x4), some (.int x5), some (.int x6), some (.int (x7 + v134)), some (.int x8), some (.int (10 * ((x8 * v137) + v140))), d10]) (st1 := [.int 0, .int v159]) (M1 := mjTo Z) (fun _ _ => rfl) ?_
                                    by_cases hc168 : mjCmp .eq v159 0 = true
                                    · rw [if_pos hc168] at h
                                      refine pG_cmt (t := 235) rfl rfl hc168 ?_
                                      refine pG_many 2 (pc1 := 94) (L1 := [some (.ref 0), some (.ref 2000000), some (.int x2), some (.int x3), some (.int x4), some (.int x5), some (.int x6), some (.int (x7 + v134)), some (.int (x8 + 1)), some (.int (10 * ((x8 * v137) + v140))), d10]) (st1 := []) (M1 := mjTo Z) (fun _ _ => rfl) ?_
                                      exact f700_runs_h94_ok K hK n x2 x3 x4 x5 x6 (x7 + v134) (x8 + 1) (some (.int (10 * ((x8 * v137) + v140)))) d10 Z v9 h
                                    · rw [if_neg hc168] at h
                                      refine pG_cmf (t := 235) rfl rfl hc168 ?_
                                      refine pG_many 1 (pc1 := 234) (L1 := [some (.ref 0), some (.ref 2000000), some (.int x2), some (.int x3), some (.int x4), some (.int x5), some (.int x6), some (.int (x7 + v134)), some (.int x8), some (.int (10 * ((x8 * v137) + v140))), d10]) (st1 := [.int 0]) (M1 := mjTo Z) (fun _ _ => rfl) ?_
                                      simp only [Option.some.injEq] at h
                                      subst h
                                      exact pG_ret (r := some (.int 0)) rfl ⟨rfl, rfl⟩
                                  · rw [if_neg hc167] at h
                                    refine pG_cmf (t := 229) rfl rfl hc167 ?_
                                    refine pG_many 4 (pc1 := 214) (L1 := [some (.ref 0), some (.ref 2000000), some (.int x2), some (.int x3), some (.int x4), some (.int x5), some (.int x6), some (.int (x7 + v134)), some (.int x8), some (.int (10 * ((x8 * v137) + v140))), d10]) (st1 := [.int 2, .int x8, .int x3, .ref 0, .int v159]) (M1 := mjTo Z) (fun _ _ => rfl) ?_
                                    refine pG_callV (k2 := 147) (As := [.ref 0, .int x3, .int x8, .int 2]) (rest := [.int v159]) rfl rfl rfl rfl rfl (by rfl) (by decide) (by decide) (f168_leg_ok hq139) ?_
                                    rintro r9 M9 ⟨rfl, rfl⟩
                                    show pG 200 217 [some (.ref 0), some (.ref 2000000), some (.int x2), some (.int x3), some (.int x4), some (.int x5), some (.int x6), some (.int (x7 + v134)), some (.int x8), some (.int (10 * ((x8 * v137) + v140))), d10] [.int v140, .int v159] (mjTo Z) _
                                    refine pG_many 2 (pc1 := 219) (L1 := [some (.ref 0), some (.ref 2000000), some (.int x2), some (.int x3), some (.int x4), some (.int x5), some (.int x6), some (.int (x7 + v134)), some (.int x8), some (.int (10 * ((x8 * v137) + v140))), d10]) (st1 := [.int 3, .ref 0, .int v140, .int v159]) (M1 := mjTo Z) (fun _ _ => rfl) ?_
                                    cases hq172 : f154_about 3 Z with
                                    | none => rw [hq172] at h; cases h
                                    | some v173 =>
                                      rw [hq172, mjBp_some] at h
                                      refine pG_callV (k2 := 140) (As := [.ref 0, .int 3]) (rest := [.int v140, .int v159]) rfl rfl rfl rfl rfl (by rfl) (by decide) (by decide) (f154_about_ok hq172) ?_
                                      rintro r9 M9 ⟨rfl, rfl⟩
                                      show pG 200 222 [some (.ref 0), some (.ref 2000000), some (.int x2), some (.int x3), some (.int x4), some (.int x5), some (.int x6), some (.int (x7 + v134)), some (.int x8), some (.int (10 * ((x8 * v137) + v140))), d10] [.int v173, .int v140, .int v159] (mjTo Z) _
                                      by_cases hc175 : mjCmp .gt v140 v173 = true
                                      · rw [if_pos hc175] at h
                                        refine pG_cmt (t := 229) rfl rfl hc175 ?_
                                        refine pG_many 1 (pc1 := 230) (L1 := [some (.ref 0), some (.ref 2000000), some (.int x2), some (.int x3), some (.int x4), some (.int x5), some (.int x6), some (.int (x7 + v134)), some (.int x8), some (.int (10 * ((x8 * v137) + v140))), d10]) (st1 := [.int 0, .int v159]) (M1 := mjTo Z) (fun _ _ => rfl) ?_
                                        by_cases hc176 : mjCmp .eq v159 0 = true
                                        · rw [if_pos hc176] at h
                                          refine pG_cmt (t := 235) rfl rfl hc176 ?_
                                          refine pG_many 2 (pc1 := 94) (L1 := [some (.ref 0), some (.ref 2000000), some (.int x2), some (.int x3), some (.int x4), some (.int x5), some (.int x6), some (.int (x7 + v134)), some (.int (x8 + 1)), some (.int (10 * ((x8 * v137) + v140))), d10]) (st1 := []) (M1 := mjTo Z) (fun _ _ => rfl) ?_
                                          exact f700_runs_h94_ok K hK n x2 x3 x4 x5 x6 (x7 + v134) (x8 + 1) (some (.int (10 * ((x8 * v137) + v140)))) d10 Z v9 h
                                        · rw [if_neg hc176] at h
                                          refine pG_cmf (t := 235) rfl rfl hc176 ?_
                                          refine pG_many 1 (pc1 := 234) (L1 := [some (.ref 0), some (.ref 2000000), some (.int x2), some (.int x3), some (.int x4), some (.int x5), some (.int x6), some (.int (x7 + v134)), some (.int x8), some (.int (10 * ((x8 * v137) + v140))), d10]) (st1 := [.int 0]) (M1 := mjTo Z) (fun _ _ => rfl) ?_
                                          simp only [Option.some.injEq] at h
                                          subst h
                                          exact pG_ret (r := some (.int 0)) rfl ⟨rfl, rfl⟩
                                      · rw [if_neg hc175] at h
                                        refine pG_cmf (t := 229) rfl rfl hc175 ?_
                                        refine pG_many 2 (pc1 := 230) (L1 := [some (.ref 0), some (.ref 2000000), some (.int x2), some (.int x3), some (.int x4), some (.int x5), some (.int x6), some (.int (x7 + v134)), some (.int x8), some (.int (10 * ((x8 * v137) + v140))), d10]) (st1 := [.int 1, .int v159]) (M1 := mjTo Z) (fun _ _ => rfl) ?_
                                        by_cases hc177 : mjCmp .eq v159 1 = true
                                        · rw [if_pos hc177] at h
                                          refine pG_cmt (t := 235) rfl rfl hc177 ?_
                                          refine pG_many 2 (pc1 := 94) (L1 := [some (.ref 0), some (.ref 2000000), some (.int x2), some (.int x3), some (.int x4), some (.int x5), some (.int x6), some (.int (x7 + v134)), some (.int (x8 + 1)), some (.int (10 * ((x8 * v137) + v140))), d10]) (st1 := []) (M1 := mjTo Z) (fun _ _ => rfl) ?_
                                          exact f700_runs_h94_ok K hK n x2 x3 x4 x5 x6 (x7 + v134) (x8 + 1) (some (.int (10 * ((x8 * v137) + v140)))) d10 Z v9 h
                                        · rw [if_neg hc177] at h
                                          refine pG_cmf (t := 235) rfl rfl hc177 ?_
                                          refine pG_many 1 (pc1 := 234) (L1 := [some (.ref 0), some (.ref 2000000), some (.int x2), some (.int x3), some (.int x4), some (.int x5), some (.int x6), some (.int (x7 + v134)), some (.int x8), some (.int (10 * ((x8 * v137) + v140))), d10]) (st1 := [.int 0]) (M1 := mjTo Z) (fun _ _ => rfl) ?_
                                          simp only [Option.some.injEq] at h
                                          subst h
                                          exact pG_ret (r := some (.int 0)) rfl ⟨rfl, rfl⟩
                        · rw [if_neg hc153] at h
                          refine pG_cmf (t := 175) rfl rfl hc153 ?_
                          refine pG_many 1 (pc1 := 174) (L1 := [some (.ref 0), some (.ref 2000000), some (.int x2), some (.int x3), some (.int x4), some (.int x5), some (.int x6), some (.int (x7 + v134)), some (.int x8), some (.int (10 * ((x8 * v137) + v140))), d10]) (st1 := [.int 0]) (M1 := mjTo Z) (fun _ _ => rfl) ?_
                          simp only [Option.some.injEq] at h
                          subst h
                          exact pG_ret (r := some (.int 0)) rfl ⟨rfl, rfl⟩
def f700_runs_h299 (K : Int32 → Int32 → mjZt → Option Int32) : Nat → Int32 → Int32 → Int32 → mjZt → Option Int32
  | 0, _, _, _, _ => none
  | n + 1, x2, x3, x10, Z =>
    mjBp (f154_about 5 Z) fun v189 =>
    if mjCmp .ge x10 v189 = true then
      K x2 x3 Z
    else
      if mjCmp .eq x10 x3 = true then
        f700_runs_h299 K n x2 x3 (x10 + 1) Z
      else
        mjBp (f163_changes x3 x10 Z) fun v194 =>
        mjBp (f163_changes x10 x3 Z) fun v197 =>
        if mjCmp .eq v194 v197 = true then
          f700_runs_h299 K n x2 x3 (x10 + 1) Z
        else
          some 0
set_option maxRecDepth 100000 in
theorem f700_runs_h299_ok (K : Int32 → Int32 → mjZt → Option Int32) (hK : ∀ (x2 : Int32) (x3 : Int32) (d4 d5 d6 d7 d8 d9 d10 : Option Value) (Z : mjZt) (v9 : Int32), K x2 x3 Z = some v9 → pG 200 340 [some (.ref 0), some (.ref 2000000), some (.int x2), some (.int x3), d4, d5, d6, d7, d8, d9, d10] [] (mjTo Z) (fun r M1 => r = some (.int v9) ∧ M1 = mjTo Z)) : ∀ (n : Nat) (x2 : Int32) (x3 : Int32) (x10 : Int32) (d4 d5 d6 d7 d8 d9 : Option Value) (Z : mjZt) (v9 : Int32), f700_runs_h299 K n x2 x3 x10 Z = some v9 → pG 200 299 [some (.ref 0), some (.ref 2000000), some (.int x2), some (.int x3), d4, d5, d6, d7, d8, d9, some (.int x10)] [] (mjTo Z) (fun r M1 => r = some (.int v9) ∧ M1 = mjTo Z)
  | 0, x2, x3, x10, d4, d5, d6, d7, d8, d9, Z, v9, h => by rw [f700_runs_h299] at h; cases h
  | n + 1, x2, x3, x10, d4, d5, d6, d7, d8, d9, Z, v9, h => by
      rw [f700_runs_h299] at h
      refine pG_many 3 (pc1 := 303) (L1 := [some (.ref 0), some (.ref 2000000), some (.int x2), some (.int x3), d4, d5, d6, d7, d8, d9, some (.int x10)]) (st1 := [.int 5, .ref 0, .int x10]) (M1 := mjTo Z) (fun _ _ => rfl) ?_
      cases hq188 : f154_about 5 Z with
      | none => rw [hq188] at h; cases h
      | some v189 =>
        rw [hq188, mjBp_some] at h
        refine pG_callV (k2 := 140) (As := [.ref 0, .int 5]) (rest := [.int x10]) rfl rfl rfl rfl rfl (by rfl) (by decide) (by decide) (f154_about_ok hq188) ?_
        rintro r9 M9 ⟨rfl, rfl⟩
        show pG 200 306 [some (.ref 0), some (.ref 2000000), some (.int x2), some (.int x3), d4, d5, d6, d7, d8, d9, some (.int x10)] [.int v189, .int x10] (mjTo Z) _
        by_cases hc191 : mjCmp .ge x10 v189 = true
        · rw [if_pos hc191] at h
          refine pG_cmt (t := 340) rfl rfl hc191 ?_
          exact hK x2 x3 d4 d5 d6 d7 d8 d9 (some (.int x10)) Z v9 h
        · rw [if_neg hc191] at h
          refine pG_cmf (t := 340) rfl rfl hc191 ?_
          refine pG_many 2 (pc1 := 312) (L1 := [some (.ref 0), some (.ref 2000000), some (.int x2), some (.int x3), d4, d5, d6, d7, d8, d9, some (.int x10)]) (st1 := [.int x3, .int x10]) (M1 := mjTo Z) (fun _ _ => rfl) ?_
          by_cases hc192 : mjCmp .eq x10 x3 = true
          · rw [if_pos hc192] at h
            refine pG_cmt (t := 334) rfl rfl hc192 ?_
            refine pG_many 2 (pc1 := 299) (L1 := [some (.ref 0), some (.ref 2000000), some (.int x2), some (.int x3), d4, d5, d6, d7, d8, (mjK1 d9), some (.int (x10 + 1))]) (st1 := []) (M1 := mjTo Z) (fun _ _ => rfl) ?_
            exact f700_runs_h299_ok K hK n x2 x3 (x10 + 1) d4 d5 d6 d7 d8 ((mjK1 d9)) Z v9 h
          · rw [if_neg hc192] at h
            refine pG_cmf (t := 334) rfl rfl hc192 ?_
            refine pG_many 3 (pc1 := 319) (L1 := [some (.ref 0), some (.ref 2000000), some (.int x2), some (.int x3), d4, d5, d6, d7, d8, d9, some (.int x10)]) (st1 := [.int x10, .int x3, .ref 0]) (M1 := mjTo Z) (fun _ _ => rfl) ?_
            cases hq193 : f163_changes x3 x10 Z with
            | none => rw [hq193] at h; cases h
            | some v194 =>
              rw [hq193, mjBp_some] at h
              refine pG_callV (k2 := 146) (As := [.ref 0, .int x3, .int x10]) (rest := []) rfl rfl rfl rfl rfl (by rfl) (by decide) (by decide) (f163_changes_ok hq193) ?_
              rintro r9 M9 ⟨rfl, rfl⟩
              show pG 200 322 [some (.ref 0), some (.ref 2000000), some (.int x2), some (.int x3), d4, d5, d6, d7, d8, d9, some (.int x10)] [.int v194] (mjTo Z) _
              refine pG_many 3 (pc1 := 326) (L1 := [some (.ref 0), some (.ref 2000000), some (.int x2), some (.int x3), d4, d5, d6, d7, d8, d9, some (.int x10)]) (st1 := [.int x3, .int x10, .ref 0, .int v194]) (M1 := mjTo Z) (fun _ _ => rfl) ?_
              cases hq196 : f163_changes x10 x3 Z with
              | none => rw [hq196] at h; cases h
              | some v197 =>
                rw [hq196, mjBp_some] at h
                refine pG_callV (k2 := 146) (As := [.ref 0, .int x10, .int x3]) (rest := [.int v194]) rfl rfl rfl rfl rfl (by rfl) (by decide) (by decide) (f163_changes_ok hq196) ?_
                rintro r9 M9 ⟨rfl, rfl⟩
                show pG 200 329 [some (.ref 0), some (.ref 2000000), some (.int x2), some (.int x3), d4, d5, d6, d7, d8, d9, some (.int x10)] [.int v197, .int v194] (mjTo Z) _
                by_cases hc199 : mjCmp .eq v194 v197 = true
                · rw [if_pos hc199] at h
                  refine pG_cmt (t := 334) rfl rfl hc199 ?_
                  refine pG_many 2 (pc1 := 299) (L1 := [some (.ref 0), some (.ref 2000000), some (.int x2), some (.int x3), d4, d5, d6, d7, d8, (mjK1 d9), some (.int (x10 + 1))]) (st1 := []) (M1 := mjTo Z) (fun _ _ => rfl) ?_
                  exact f700_runs_h299_ok K hK n x2 x3 (x10 + 1) d4 d5 d6 d7 d8 ((mjK1 d9)) Z v9 h
                · rw [if_neg hc199] at h
                  refine pG_cmf (t := 334) rfl rfl hc199 ?_
                  refine pG_many 1 (pc1 := 333) (L1 := [some (.ref 0), some (.ref 2000000), some (.int x2), some (.int x3), d4, d5, d6, d7, d8, d9, some (.int x10)]) (st1 := [.int 0]) (M1 := mjTo Z) (fun _ _ => rfl) ?_
                  simp only [Option.some.injEq] at h
                  subst h
                  exact pG_ret (r := some (.int 0)) rfl ⟨rfl, rfl⟩
def f700_runs_j296 (R : Int32 → Int32 → mjZt → Option Int32) (x2 : Int32) (x3 : Int32) (Z : mjZt) : Option Int32 :=
  f700_runs_h299 (fun x2_Z200 x3_Z200 Z200 =>
    R x2_Z200 (x3_Z200 + 1) Z200
    ) mjF x2 x3 0 Z
set_option maxRecDepth 100000 in
theorem f700_runs_j296_ok (R : Int32 → Int32 → mjZt → Option Int32) (hR : ∀ (x2 : Int32) (x3 : Int32) (d4 d5 d6 d7 d8 d9 d10 : Option Value) (Z : mjZt) (v9 : Int32), R x2 x3 Z = some v9 → pG 200 2 [some (.ref 0), some (.ref 2000000), some (.int x2), some (.int x3), d4, d5, d6, d7, d8, d9, d10] [] (mjTo Z) (fun r M1 => r = some (.int v9) ∧ M1 = mjTo Z)) (x2 : Int32) (x3 : Int32) (d4 d5 d6 d7 d8 d9 d10 : Option Value) (Z : mjZt) (v9 : Int32) (h : f700_runs_j296 R x2 x3 Z = some v9) : pG 200 296 [some (.ref 0), some (.ref 2000000), some (.int x2), some (.int x3), d4, d5, d6, d7, d8, d9, d10] [] (mjTo Z) (fun r M1 => r = some (.int v9) ∧ M1 = mjTo Z) := by
  unfold f700_runs_j296 at h
  refine pG_many 2 (pc1 := 299) (L1 := [some (.ref 0), some (.ref 2000000), some (.int x2), some (.int x3), d4, d5, d6, d7, d8, (mjK1 d9), some (.int 0)]) (st1 := []) (M1 := mjTo Z) (fun _ _ => rfl) ?_
  refine f700_runs_h299_ok _ ?_ mjF x2 x3 0 d4 d5 d6 d7 d8 ((mjK1 d9)) Z v9 h
  clear h
  intro x2_Z200 x3_Z200 d4 d5 d6 d7 d8 d9 d10 Z200 v9 h
  refine pG_many 2 (pc1 := 2) (L1 := [some (.ref 0), some (.ref 2000000), some (.int x2_Z200), some (.int (x3_Z200 + 1)), d4, d5, d6, d7, d8, d9, d10]) (st1 := []) (M1 := mjTo Z200) (fun _ _ => rfl) ?_
  exact hR x2_Z200 (x3_Z200 + 1) d4 d5 d6 d7 d8 d9 d10 Z200 v9 h
def f700_runs_h2 : Nat → Int32 → Int32 → mjZt → Option Int32
  | 0, _, _, _ => none
  | n + 1, x2, x3, Z =>
    mjBp (f154_about 5 Z) fun v102 =>
    if mjCmp .ge x3 v102 = true then
      some 1
    else
      mjBp (f156_team x3 2 Z) fun v106 =>
      mjBp (f156_team x3 1 Z) fun v109 =>
      mjBp (f685_pick (x2 + x3) 500 Z) fun v112 =>
      mjBp (f159_place x3 (v112 + 1) Z) fun v115 =>
      mjBp (f159_place x3 v112 Z) fun v118 =>
      if mjCmp .lt v115 v118 = true then
        some 0
      else
        mjBp (f159_place x3 0 Z) fun v122 =>
        if mjCmp .ne v122 0 = true then
          some 0
        else
          mjBp (f159_place x3 (v106 + 5) Z) fun v126 =>
          mjBp (f159_place x3 v106 Z) fun v129 =>
          if mjCmp .eq v126 v129 = true then
            f700_runs_h94 (fun x2_Z178 x3_Z178 x4_Z178 x6_Z178 x7_Z178 Z178 =>
              if mjCmp .eq x7_Z178 x4_Z178 = true then
                mjBp (f159_place x3_Z178 x6_Z178 Z178) fun v181 =>
                mjBp (f160_comes x3_Z178 v181 Z178) fun v184 =>
                if mjCmp .gt v184 x6_Z178 = true then
                  some 0
                else
                  if mjCmp .le v184 0 = true then
                    f700_runs_j296 (f700_runs_h2 n) x2_Z178 x3_Z178 Z178
                  else
                    mjBp (f159_place x3_Z178 (v184 - 1) Z178) fun v202 =>
                    if mjCmp .lt v202 v181 = true then
                      f700_runs_j296 (f700_runs_h2 n) x2_Z178 x3_Z178 Z178
                    else
                      some 0
              else
                some 0
              ) mjF x2 x3 v106 v109 v112 0 1 Z
          else
            some 0
set_option maxRecDepth 100000 in
theorem f700_runs_h2_ok : ∀ (n : Nat) (x2 : Int32) (x3 : Int32) (d4 d5 d6 d7 d8 d9 d10 : Option Value) (Z : mjZt) (v9 : Int32), f700_runs_h2 n x2 x3 Z = some v9 → pG 200 2 [some (.ref 0), some (.ref 2000000), some (.int x2), some (.int x3), d4, d5, d6, d7, d8, d9, d10] [] (mjTo Z) (fun r M1 => r = some (.int v9) ∧ M1 = mjTo Z)
  | 0, x2, x3, d4, d5, d6, d7, d8, d9, d10, Z, v9, h => by rw [f700_runs_h2] at h; cases h
  | n + 1, x2, x3, d4, d5, d6, d7, d8, d9, d10, Z, v9, h => by
      rw [f700_runs_h2] at h
      refine pG_many 3 (pc1 := 5) (L1 := [some (.ref 0), some (.ref 2000000), some (.int x2), some (.int x3), d4, d5, d6, d7, d8, d9, d10]) (st1 := [.int 5, .ref 0, .int x3]) (M1 := mjTo Z) (fun _ _ => rfl) ?_
      cases hq101 : f154_about 5 Z with
      | none => rw [hq101] at h; cases h
      | some v102 =>
        rw [hq101, mjBp_some] at h
        refine pG_callV (k2 := 140) (As := [.ref 0, .int 5]) (rest := [.int x3]) rfl rfl rfl rfl rfl (by rfl) (by decide) (by decide) (f154_about_ok hq101) ?_
        rintro r9 M9 ⟨rfl, rfl⟩
        show pG 200 8 [some (.ref 0), some (.ref 2000000), some (.int x2), some (.int x3), d4, d5, d6, d7, d8, d9, d10] [.int v102, .int x3] (mjTo Z) _
        by_cases hc104 : mjCmp .ge x3 v102 = true
        · rw [if_pos hc104] at h
          refine pG_cmt (t := 346) rfl rfl hc104 ?_
          refine pG_many 1 (pc1 := 347) (L1 := [some (.ref 0), some (.ref 2000000), some (.int x2), some (.int x3), d4, d5, d6, d7, d8, d9, d10]) (st1 := [.int 1]) (M1 := mjTo Z) (fun _ _ => rfl) ?_
          simp only [Option.some.injEq] at h
          subst h
          exact pG_ret (r := some (.int 1)) rfl ⟨rfl, rfl⟩
        · rw [if_neg hc104] at h
          refine pG_cmf (t := 346) rfl rfl hc104 ?_
          refine pG_many 3 (pc1 := 14) (L1 := [some (.ref 0), some (.ref 2000000), some (.int x2), some (.int x3), d4, d5, d6, d7, d8, d9, d10]) (st1 := [.int 2, .int x3, .ref 0]) (M1 := mjTo Z) (fun _ _ => rfl) ?_
          cases hq105 : f156_team x3 2 Z with
          | none => rw [hq105] at h; cases h
          | some v106 =>
            rw [hq105, mjBp_some] at h
            refine pG_callV (k2 := 141) (As := [.ref 0, .int x3, .int 2]) (rest := []) rfl rfl rfl rfl rfl (by rfl) (by decide) (by decide) (f156_team_ok hq105) ?_
            rintro r9 M9 ⟨rfl, rfl⟩
            show pG 200 17 [some (.ref 0), some (.ref 2000000), some (.int x2), some (.int x3), d4, d5, d6, d7, d8, d9, d10] [.int v106] (mjTo Z) _
            refine pG_many 4 (pc1 := 22) (L1 := [some (.ref 0), some (.ref 2000000), some (.int x2), some (.int x3), some (.int v106), d5, d6, d7, d8, d9, d10]) (st1 := [.int 1, .int x3, .ref 0]) (M1 := mjTo Z) (fun _ _ => rfl) ?_
            cases hq108 : f156_team x3 1 Z with
            | none => rw [hq108] at h; cases h
            | some v109 =>
              rw [hq108, mjBp_some] at h
              refine pG_callV (k2 := 141) (As := [.ref 0, .int x3, .int 1]) (rest := []) rfl rfl rfl rfl rfl (by rfl) (by decide) (by decide) (f156_team_ok hq108) ?_
              rintro r9 M9 ⟨rfl, rfl⟩
              show pG 200 25 [some (.ref 0), some (.ref 2000000), some (.int x2), some (.int x3), some (.int v106), d5, d6, d7, d8, d9, d10] [.int v109] (mjTo Z) _
              refine pG_many 6 (pc1 := 34) (L1 := [some (.ref 0), some (.ref 2000000), some (.int x2), some (.int x3), some (.int v106), some (.int v109), d6, d7, d8, d9, d10]) (st1 := [.int 500, .int (x2 + x3), .ref 2000000]) (M1 := mjTo Z) (fun _ _ => rfl) ?_
              cases hq111 : f685_pick (x2 + x3) 500 Z with
              | none => rw [hq111] at h; cases h
              | some v112 =>
                rw [hq111, mjBp_some] at h
                refine pG_call (k2 := 185) (As := [.ref 2000000, .int (x2 + x3), .int 500]) (rest := []) (fun _ _ => rfl) (by decide) (by decide) (f685_pick_ok hq111) ?_
                rintro r9 M9 ⟨rfl, rfl⟩
                show pG 200 37 [some (.ref 0), some (.ref 2000000), some (.int x2), some (.int x3), some (.int v106), some (.int v109), d6, d7, d8, d9, d10] [.int v112] (mjTo Z) _
                refine pG_many 6 (pc1 := 45) (L1 := [some (.ref 0), some (.ref 2000000), some (.int x2), some (.int x3), some (.int v106), some (.int v109), some (.int v112), d7, d8, d9, d10]) (st1 := [.int (v112 + 1), .int x3, .ref 0]) (M1 := mjTo Z) (fun _ _ => rfl) ?_
                cases hq114 : f159_place x3 (v112 + 1) Z with
                | none => rw [hq114] at h; cases h
                | some v115 =>
                  rw [hq114, mjBp_some] at h
                  refine pG_callV (k2 := 144) (As := [.ref 0, .int x3, .int (v112 + 1)]) (rest := []) rfl rfl rfl rfl rfl (by rfl) (by decide) (by decide) (f159_place_ok hq114) ?_
                  rintro r9 M9 ⟨rfl, rfl⟩
                  show pG 200 48 [some (.ref 0), some (.ref 2000000), some (.int x2), some (.int x3), some (.int v106), some (.int v109), some (.int v112), d7, d8, d9, d10] [.int v115] (mjTo Z) _
                  refine pG_many 3 (pc1 := 52) (L1 := [some (.ref 0), some (.ref 2000000), some (.int x2), some (.int x3), some (.int v106), some (.int v109), some (.int v112), d7, d8, d9, d10]) (st1 := [.int v112, .int x3, .ref 0, .int v115]) (M1 := mjTo Z) (fun _ _ => rfl) ?_
                  cases hq117 : f159_place x3 v112 Z with
                  | none => rw [hq117] at h; cases h
                  | some v118 =>
                    rw [hq117, mjBp_some] at h
                    refine pG_callV (k2 := 144) (As := [.ref 0, .int x3, .int v112]) (rest := [.int v115]) rfl rfl rfl rfl rfl (by rfl) (by decide) (by decide) (f159_place_ok hq117) ?_
                    rintro r9 M9 ⟨rfl, rfl⟩
                    show pG 200 55 [some (.ref 0), some (.ref 2000000), some (.int x2), some (.int x3), some (.int v106), some (.int v109), some (.int v112), d7, d8, d9, d10] [.int v118, .int v115] (mjTo Z) _
                    by_cases hc120 : mjCmp .lt v115 v118 = true
                    · rw [if_pos hc120] at h
                      refine pG_cmt (t := 86) rfl rfl hc120 ?_
                      refine pG_many 1 (pc1 := 87) (L1 := [some (.ref 0), some (.ref 2000000), some (.int x2), some (.int x3), some (.int v106), some (.int v109), some (.int v112), d7, d8, d9, d10]) (st1 := [.int 0]) (M1 := mjTo Z) (fun _ _ => rfl) ?_
                      simp only [Option.some.injEq] at h
                      subst h
                      exact pG_ret (r := some (.int 0)) rfl ⟨rfl, rfl⟩
                    · rw [if_neg hc120] at h
                      refine pG_cmf (t := 86) rfl rfl hc120 ?_
                      refine pG_many 3 (pc1 := 61) (L1 := [some (.ref 0), some (.ref 2000000), some (.int x2), some (.int x3), some (.int v106), some (.int v109), some (.int v112), d7, d8, d9, d10]) (st1 := [.int 0, .int x3, .ref 0]) (M1 := mjTo Z) (fun _ _ => rfl) ?_
                      cases hq121 : f159_place x3 0 Z with
                      | none => rw [hq121] at h; cases h
                      | some v122 =>
                        rw [hq121, mjBp_some] at h
                        refine pG_callV (k2 := 144) (As := [.ref 0, .int x3, .int 0]) (rest := []) rfl rfl rfl rfl rfl (by rfl) (by decide) (by decide) (f159_place_ok hq121) ?_
                        rintro r9 M9 ⟨rfl, rfl⟩
                        show pG 200 64 [some (.ref 0), some (.ref 2000000), some (.int x2), some (.int x3), some (.int v106), some (.int v109), some (.int v112), d7, d8, d9, d10] [.int v122] (mjTo Z) _
                        by_cases hc124 : mjCmp .ne v122 0 = true
                        · rw [if_pos hc124] at h
                          refine pG_ift (t := 86) rfl rfl hc124 ?_
                          refine pG_many 1 (pc1 := 87) (L1 := [some (.ref 0), some (.ref 2000000), some (.int x2), some (.int x3), some (.int v106), some (.int v109), some (.int v112), d7, d8, d9, d10]) (st1 := [.int 0]) (M1 := mjTo Z) (fun _ _ => rfl) ?_
                          simp only [Option.some.injEq] at h
                          subst h
                          exact pG_ret (r := some (.int 0)) rfl ⟨rfl, rfl⟩
                        · rw [if_neg hc124] at h
                          refine pG_iff (t := 86) rfl rfl hc124 ?_
                          refine pG_many 5 (pc1 := 73) (L1 := [some (.ref 0), some (.ref 2000000), some (.int x2), some (.int x3), some (.int v106), some (.int v109), some (.int v112), d7, d8, d9, d10]) (st1 := [.int (v106 + 5), .int x3, .ref 0]) (M1 := mjTo Z) (fun _ _ => rfl) ?_
                          cases hq125 : f159_place x3 (v106 + 5) Z with
                          | none => rw [hq125] at h; cases h
                          | some v126 =>
                            rw [hq125, mjBp_some] at h
                            refine pG_callV (k2 := 144) (As := [.ref 0, .int x3, .int (v106 + 5)]) (rest := []) rfl rfl rfl rfl rfl (by rfl) (by decide) (by decide) (f159_place_ok hq125) ?_
                            rintro r9 M9 ⟨rfl, rfl⟩
                            show pG 200 76 [some (.ref 0), some (.ref 2000000), some (.int x2), some (.int x3), some (.int v106), some (.int v109), some (.int v112), d7, d8, d9, d10] [.int v126] (mjTo Z) _
                            refine pG_many 3 (pc1 := 80) (L1 := [some (.ref 0), some (.ref 2000000), some (.int x2), some (.int x3), some (.int v106), some (.int v109), some (.int v112), d7, d8, d9, d10]) (st1 := [.int v106, .int x3, .ref 0, .int v126]) (M1 := mjTo Z) (fun _ _ => rfl) ?_
                            cases hq128 : f159_place x3 v106 Z with
                            | none => rw [hq128] at h; cases h
                            | some v129 =>
                              rw [hq128, mjBp_some] at h
                              refine pG_callV (k2 := 144) (As := [.ref 0, .int x3, .int v106]) (rest := [.int v126]) rfl rfl rfl rfl rfl (by rfl) (by decide) (by decide) (f159_place_ok hq128) ?_
                              rintro r9 M9 ⟨rfl, rfl⟩
                              show pG 200 83 [some (.ref 0), some (.ref 2000000), some (.int x2), some (.int x3), some (.int v106), some (.int v109), some (.int v112), d7, d8, d9, d10] [.int v129, .int v126] (mjTo Z) _
                              by_cases hc131 : mjCmp .eq v126 v129 = true
                              · rw [if_pos hc131] at h
                                refine pG_cmt (t := 88) rfl rfl hc131 ?_
                                refine pG_many 4 (pc1 := 94) (L1 := [some (.ref 0), some (.ref 2000000), some (.int x2), some (.int x3), some (.int v106), some (.int v109), some (.int v112), some (.int 0), some (.int 1), d9, d10]) (st1 := []) (M1 := mjTo Z) (fun _ _ => rfl) ?_
                                refine f700_runs_h94_ok _ ?_ mjF x2 x3 v106 v109 v112 0 1 d9 d10 Z v9 h
                                clear h
                                intro x2_Z178 x3_Z178 x4_Z178 x6_Z178 x7_Z178 d5 d8 d9 d10 Z178 v9 h
                                refine pG_many 2 (pc1 := 245) (L1 := [some (.ref 0), some (.ref 2000000), some (.int x2_Z178), some (.int x3_Z178), some (.int x4_Z178), d5, some (.int x6_Z178), some (.int x7_Z178), d8, d9, d10]) (st1 := [.int x4_Z178, .int x7_Z178]) (M1 := mjTo Z178) (fun _ _ => rfl) ?_
                                by_cases hc179 : mjCmp .eq x7_Z178 x4_Z178 = true
                                · rw [if_pos hc179] at h
                                  refine pG_cmt (t := 250) rfl rfl hc179 ?_
                                  refine pG_many 3 (pc1 := 254) (L1 := [some (.ref 0), some (.ref 2000000), some (.int x2_Z178), some (.int x3_Z178), some (.int x4_Z178), d5, some (.int x6_Z178), some (.int x7_Z178), d8, d9, d10]) (st1 := [.int x6_Z178, .int x3_Z178, .ref 0]) (M1 := mjTo Z178) (fun _ _ => rfl) ?_
                                  cases hq180 : f159_place x3_Z178 x6_Z178 Z178 with
                                  | none => rw [hq180] at h; cases h
                                  | some v181 =>
                                    rw [hq180, mjBp_some] at h
                                    refine pG_callV (k2 := 144) (As := [.ref 0, .int x3_Z178, .int x6_Z178]) (rest := []) rfl rfl rfl rfl rfl (by rfl) (by decide) (by decide) (f159_place_ok hq180) ?_
                                    rintro r9 M9 ⟨rfl, rfl⟩
                                    show pG 200 257 [some (.ref 0), some (.ref 2000000), some (.int x2_Z178), some (.int x3_Z178), some (.int x4_Z178), d5, some (.int x6_Z178), some (.int x7_Z178), d8, d9, d10] [.int v181] (mjTo Z178) _
                                    refine pG_many 4 (pc1 := 263) (L1 := [some (.ref 0), some (.ref 2000000), some (.int x2_Z178), some (.int x3_Z178), some (.int x4_Z178), d5, some (.int x6_Z178), some (.int x7_Z178), some (.int v181), d9, d10]) (st1 := [.int v181, .int x3_Z178, .ref 0]) (M1 := mjTo Z178) (fun _ _ => rfl) ?_
                                    cases hq183 : f160_comes x3_Z178 v181 Z178 with
                                    | none => rw [hq183] at h; cases h
                                    | some v184 =>
                                      rw [hq183, mjBp_some] at h
                                      refine pG_callV (k2 := 145) (As := [.ref 0, .int x3_Z178, .int v181]) (rest := []) rfl rfl rfl rfl rfl (by rfl) (by decide) (by decide) (f160_comes_ok hq183) ?_
                                      rintro r9 M9 ⟨rfl, rfl⟩
                                      show pG 200 266 [some (.ref 0), some (.ref 2000000), some (.int x2_Z178), some (.int x3_Z178), some (.int x4_Z178), d5, some (.int x6_Z178), some (.int x7_Z178), some (.int v181), d9, d10] [.int v184] (mjTo Z178) _
                                      refine pG_many 3 (pc1 := 272) (L1 := [some (.ref 0), some (.ref 2000000), some (.int x2_Z178), some (.int x3_Z178), some (.int x4_Z178), d5, some (.int x6_Z178), some (.int x7_Z178), some (.int v181), some (.int v184), d10]) (st1 := [.int x6_Z178, .int v184]) (M1 := mjTo Z178) (fun _ _ => rfl) ?_
                                      by_cases hc186 : mjCmp .gt v184 x6_Z178 = true
                                      · rw [if_pos hc186] at h
                                        refine pG_cmt (t := 294) rfl rfl hc186 ?_
                                        refine pG_many 1 (pc1 := 295) (L1 := [some (.ref 0), some (.ref 2000000), some (.int x2_Z178), some (.int x3_Z178), some (.int x4_Z178), d5, some (.int x6_Z178), some (.int x7_Z178), some (.int v181), some (.int v184), d10]) (st1 := [.int 0]) (M1 := mjTo Z178) (fun _ _ => rfl) ?_
                                        simp only [Option.some.injEq] at h
                                        subst h
                                        exact pG_ret (r := some (.int 0)) rfl ⟨rfl, rfl⟩
                                      · rw [if_neg hc186] at h
                                        refine pG_cmf (t := 294) rfl rfl hc186 ?_
                                        refine pG_many 1 (pc1 := 277) (L1 := [some (.ref 0), some (.ref 2000000), some (.int x2_Z178), some (.int x3_Z178), some (.int x4_Z178), d5, some (.int x6_Z178), some (.int x7_Z178), some (.int v181), some (.int v184), d10]) (st1 := [.int v184]) (M1 := mjTo Z178) (fun _ _ => rfl) ?_
                                        by_cases hc187 : mjCmp .le v184 0 = true
                                        · rw [if_pos hc187] at h
                                          refine pG_ift (t := 296) rfl rfl hc187 ?_
                                          exact f700_runs_j296_ok (f700_runs_h2 n) (fun x2 x3 d4 d5 d6 d7 d8 d9 d10 Z v9 h => f700_runs_h2_ok n x2 x3 d4 d5 d6 d7 d8 d9 d10 Z v9 h) x2_Z178 x3_Z178 (some (.int x4_Z178)) d5 (some (.int x6_Z178)) (some (.int x7_Z178)) (some (.int v181)) (some (.int v184)) d10 Z178 v9 h
                                        · rw [if_neg hc187] at h
                                          refine pG_iff (t := 296) rfl rfl hc187 ?_
                                          refine pG_many 5 (pc1 := 286) (L1 := [some (.ref 0), some (.ref 2000000), some (.int x2_Z178), some (.int x3_Z178), some (.int x4_Z178), d5, some (.int x6_Z178), some (.int x7_Z178), some (.int v181), some (.int v184), d10]) (st1 := [.int (v184 - 1), .int x3_Z178, .ref 0]) (M1 := mjTo Z178) (fun _ _ => rfl) ?_
                                          cases hq201 : f159_place x3_Z178 (v184 - 1) Z178 with
                                          | none => rw [hq201] at h; cases h
                                          | some v202 =>
                                            rw [hq201, mjBp_some] at h
                                            refine pG_callV (k2 := 144) (As := [.ref 0, .int x3_Z178, .int (v184 - 1)]) (rest := []) rfl rfl rfl rfl rfl (by rfl) (by decide) (by decide) (f159_place_ok hq201) ?_
                                            rintro r9 M9 ⟨rfl, rfl⟩
                                            show pG 200 289 [some (.ref 0), some (.ref 2000000), some (.int x2_Z178), some (.int x3_Z178), some (.int x4_Z178), d5, some (.int x6_Z178), some (.int x7_Z178), some (.int v181), some (.int v184), d10] [.int v202] (mjTo Z178) _
                                            refine pG_many 1 (pc1 := 291) (L1 := [some (.ref 0), some (.ref 2000000), some (.int x2_Z178), some (.int x3_Z178), some (.int x4_Z178), d5, some (.int x6_Z178), some (.int x7_Z178), some (.int v181), some (.int v184), d10]) (st1 := [.int v181, .int v202]) (M1 := mjTo Z178) (fun _ _ => rfl) ?_
                                            by_cases hc204 : mjCmp .lt v202 v181 = true
                                            · rw [if_pos hc204] at h
                                              refine pG_cmt (t := 296) rfl rfl hc204 ?_
                                              exact f700_runs_j296_ok (f700_runs_h2 n) (fun x2 x3 d4 d5 d6 d7 d8 d9 d10 Z v9 h => f700_runs_h2_ok n x2 x3 d4 d5 d6 d7 d8 d9 d10 Z v9 h) x2_Z178 x3_Z178 (some (.int x4_Z178)) d5 (some (.int x6_Z178)) (some (.int x7_Z178)) (some (.int v181)) (some (.int v184)) d10 Z178 v9 h
                                            · rw [if_neg hc204] at h
                                              refine pG_cmf (t := 296) rfl rfl hc204 ?_
                                              refine pG_many 1 (pc1 := 295) (L1 := [some (.ref 0), some (.ref 2000000), some (.int x2_Z178), some (.int x3_Z178), some (.int x4_Z178), d5, some (.int x6_Z178), some (.int x7_Z178), some (.int v181), some (.int v184), d10]) (st1 := [.int 0]) (M1 := mjTo Z178) (fun _ _ => rfl) ?_
                                              simp only [Option.some.injEq] at h
                                              subst h
                                              exact pG_ret (r := some (.int 0)) rfl ⟨rfl, rfl⟩
                                · rw [if_neg hc179] at h
                                  refine pG_cmf (t := 250) rfl rfl hc179 ?_
                                  refine pG_many 1 (pc1 := 249) (L1 := [some (.ref 0), some (.ref 2000000), some (.int x2_Z178), some (.int x3_Z178), some (.int x4_Z178), d5, some (.int x6_Z178), some (.int x7_Z178), d8, d9, d10]) (st1 := [.int 0]) (M1 := mjTo Z178) (fun _ _ => rfl) ?_
                                  simp only [Option.some.injEq] at h
                                  subst h
                                  exact pG_ret (r := some (.int 0)) rfl ⟨rfl, rfl⟩
                              · rw [if_neg hc131] at h
                                refine pG_cmf (t := 88) rfl rfl hc131 ?_
                                refine pG_many 1 (pc1 := 87) (L1 := [some (.ref 0), some (.ref 2000000), some (.int x2), some (.int x3), some (.int v106), some (.int v109), some (.int v112), d7, d8, d9, d10]) (st1 := [.int 0]) (M1 := mjTo Z) (fun _ _ => rfl) ?_
                                simp only [Option.some.injEq] at h
                                subst h
                                exact pG_ret (r := some (.int 0)) rfl ⟨rfl, rfl⟩
def f700_runs (p2 : Int32) (Z : mjZt) : Option Int32 :=
  f700_runs_h2 mjF p2 0 Z
set_option maxRecDepth 100000 in
theorem f700_runs_ok {p2 : Int32} {Z : mjZt} {v9 : Int32} (h : f700_runs p2 Z = some v9) : pG 200 0 (mjEnt [.ref 0, .ref 2000000, .int p2] (mjML 200)) [] (mjTo Z) (fun r M1 => r = some (.int v9) ∧ M1 = mjTo Z) := by
  unfold f700_runs at h
  show pG 200 0 [some (.ref 0), some (.ref 2000000), some (.int p2), none, none, none, none, none, none, none, none] [] (mjTo Z) _
  refine pG_many 2 (pc1 := 2) (L1 := [some (.ref 0), some (.ref 2000000), some (.int p2), some (.int 0), none, none, none, none, none, none, none]) (st1 := []) (M1 := mjTo Z) (fun _ _ => rfl) ?_
  exact f700_runs_h2_ok mjF p2 0 none none none none none none none Z v9 h
