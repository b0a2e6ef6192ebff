def f175_why (p0 : Int32) (p1 : Int32) (p2 : Int32) (p3 : Int32) (Z : mjZt) : Option (Int32 × mjZt) :=
  mjBp (f173_canHold p0 p1 p2 Z) fun v102 =>
  if mjCmp .ne v102 0 = true then
    mjBd (f75_lookAt Z.2.2.1 p2 Z) fun _ Z107 =>
    if mjIs Z107.2.2.1 251 2 = true then
    mjBd (f85_isSo (Z107.2.2.1 + 1) p0 p1 Z107) fun v110 Z111 =>
    if mjIs Z111.2.2.1 251 2 = true then
    mjBd (f91_reason (Z111.2.2.1 + 1) p0 p1 p3 Z111) fun v114 Z115 =>
    some (v114, Z115)
    else none
    else none
  else
    some ((-2000000), Z)
theorem f175_why_ok {p0 : Int32} {p1 : Int32} {p2 : Int32} {p3 : Int32} {Z : mjZt} {v9 : Int32} {Z9 : mjZt} (h : f175_why p0 p1 p2 p3 Z = some (v9, Z9)) : pG 175 0 (mjEnt [.ref 0, .int p0, .int p1, .int p2, .int p3] (mjML 175)) [] (mjTo Z) (fun r M1 => r = some (.int v9) ∧ M1 = mjTo Z9) := by
  unfold f175_why at h
  show pG 175 0 [some (.ref 0), some (.int p0), some (.int p1), some (.int p2), some (.int p3)] [] (mjTo Z) _
  refine pG_many 4 (pc1 := 4) (L1 := [some (.ref 0), some (.int p0), some (.int p1), some (.int p2), some (.int p3)]) (st1 := [.int p2, .int p1, .int p0, .ref 0]) (M1 := mjTo Z) rfl ?_
  cases hq101 : f173_canHold p0 p1 p2 Z with
  | none => rw [hq101] at h; cases h
  | some v102 =>
    rw [hq101, mjBp_some] at h
    refine pG_callV (k2 := 173) (As := [.ref 0, .int p0, .int p1, .int p2]) (rest := []) rfl rfl rfl rfl rfl (by rfl) (by decide) (f173_canHold_ok hq101) ?_
    rintro r9 M9 ⟨rfl, rfl⟩
    show pG 175 7 [some (.ref 0), some (.int p0), some (.int p1), some (.int p2), some (.int p3)] [.int v102] (mjTo Z) _
    by_cases hc104 : mjCmp .ne v102 0 = true
    · rw [if_pos hc104] at h
      refine pG_ift (t := 13) rfl rfl hc104 ?_
      refine pG_many 1 (pc1 := 14) (L1 := [some (.ref 0), some (.int p0), some (.int p1), some (.int p2), some (.int p3)]) (st1 := [.ref 0]) (M1 := mjTo Z) rfl ?_
      refine pG_getR (ci := 11) (f := 6) (b := 190) rfl rfl rfl (by rfl) rfl ?_
      refine pG_many 1 (pc1 := 18) (L1 := [some (.ref 0), some (.int p0), some (.int p1), some (.int p2), some (.int p3)]) (st1 := [.ref 0, .ref 190]) (M1 := mjTo Z) rfl ?_
      refine pG_getR (ci := 11) (f := 2) (b := Z.2.2.1) rfl rfl rfl (by rfl) rfl ?_
      refine pG_many 1 (pc1 := 22) (L1 := [some (.ref 0), some (.int p0), some (.int p1), some (.int p2), some (.int p3)]) (st1 := [.int p2, .ref Z.2.2.1, .ref 190]) (M1 := mjTo Z) rfl ?_
      cases hq105 : f75_lookAt Z.2.2.1 p2 Z with
      | none => rw [hq105] at h; cases h
      | some w =>
        obtain ⟨v106, Z107⟩ := w
        rw [hq105, mjBd_some] at h
        refine pG_callV (k2 := 75) (As := [.ref 190, .ref Z.2.2.1, .int p2]) (rest := []) rfl rfl rfl rfl rfl (by rfl) (by decide) (f75_lookAt_ok hq105) ?_
        rintro r9 M9 ⟨rfl, rfl⟩
        show pG 175 25 [some (.ref 0), some (.int p0), some (.int p1), some (.int p2), some (.int p3)] [] (mjTo Z107) _
        refine pG_many 1 (pc1 := 26) (L1 := [some (.ref 0), some (.int p0), some (.int p1), some (.int p2), some (.int p3)]) (st1 := [.ref 0]) (M1 := mjTo Z107) rfl ?_
        refine pG_getR (ci := 11) (f := 6) (b := 190) rfl rfl rfl (by rfl) rfl ?_
        refine pG_many 1 (pc1 := 30) (L1 := [some (.ref 0), some (.int p0), some (.int p1), some (.int p2), some (.int p3)]) (st1 := [.ref 0, .ref 190]) (M1 := mjTo Z107) rfl ?_
        refine pG_getR (ci := 11) (f := 2) (b := Z107.2.2.1) rfl rfl rfl (by rfl) rfl ?_
        have hk108 : mjIs Z107.2.2.1 251 2 = true := by
          by_cases q9 : mjIs Z107.2.2.1 251 2 = true
          · exact q9
          · rw [if_neg q9] at h; cases h
        rw [if_pos hk108] at h
        refine pG_getR (ci := 2) (f := 12) (b := Z107.2.2.1 + 1) rfl rfl rfl hk108 (mjRc2_12 hk108) ?_
        refine pG_many 2 (pc1 := 38) (L1 := [some (.ref 0), some (.int p0), some (.int p1), some (.int p2), some (.int p3)]) (st1 := [.int p1, .int p0, .ref (Z107.2.2.1 + 1), .ref 190]) (M1 := mjTo Z107) rfl ?_
        cases hq109 : f85_isSo (Z107.2.2.1 + 1) p0 p1 Z107 with
        | none => rw [hq109] at h; cases h
        | some w =>
          obtain ⟨v110, Z111⟩ := w
          rw [hq109, mjBd_some] at h
          refine pG_callV (k2 := 85) (As := [.ref 190, .ref (Z107.2.2.1 + 1), .int p0, .int p1]) (rest := []) rfl rfl rfl rfl rfl (by rfl) (by decide) (f85_isSo_ok hq109) ?_
          rintro r9 M9 ⟨rfl, rfl⟩
          show pG 175 41 [some (.ref 0), some (.int p0), some (.int p1), some (.int p2), some (.int p3)] [.int v110] (mjTo Z111) _
          refine pG_many 2 (pc1 := 43) (L1 := [some (.ref 0), some (.int p0), some (.int p1), some (.int p2), some (.int p3)]) (st1 := [.ref 0]) (M1 := mjTo Z111) rfl ?_
          refine pG_getR (ci := 11) (f := 6) (b := 190) rfl rfl rfl (by rfl) rfl ?_
          refine pG_many 1 (pc1 := 47) (L1 := [some (.ref 0), some (.int p0), some (.int p1), some (.int p2), some (.int p3)]) (st1 := [.ref 0, .ref 190]) (M1 := mjTo Z111) rfl ?_
          refine pG_getR (ci := 11) (f := 2) (b := Z111.2.2.1) rfl rfl rfl (by rfl) rfl ?_
          have hk112 : mjIs Z111.2.2.1 251 2 = true := by
            by_cases q9 : mjIs Z111.2.2.1 251 2 = true
            · exact q9
            · rw [if_neg q9] at h; cases h
          rw [if_pos hk112] at h
          refine pG_getR (ci := 2) (f := 12) (b := Z111.2.2.1 + 1) rfl rfl rfl hk112 (mjRc2_12 hk112) ?_
          refine pG_many 3 (pc1 := 57) (L1 := [some (.ref 0), some (.int p0), some (.int p1), some (.int p2), some (.int p3)]) (st1 := [.int p3, .int p1, .int p0, .ref (Z111.2.2.1 + 1), .ref 190]) (M1 := mjTo Z111) rfl ?_
          cases hq113 : f91_reason (Z111.2.2.1 + 1) p0 p1 p3 Z111 with
          | none => rw [hq113] at h; cases h
          | some w =>
            obtain ⟨v114, Z115⟩ := w
            rw [hq113, mjBd_some] at h
            refine pG_callV (k2 := 91) (As := [.ref 190, .ref (Z111.2.2.1 + 1), .int p0, .int p1, .int p3]) (rest := []) rfl rfl rfl rfl rfl (by rfl) (by decide) (f91_reason_ok hq113) ?_
            rintro r9 M9 ⟨rfl, rfl⟩
            show pG 175 60 [some (.ref 0), some (.int p0), some (.int p1), some (.int p2), some (.int p3)] [.int v114] (mjTo Z115) _
            simp only [Option.some.injEq, Prod.mk.injEq] at h
            obtain ⟨rfl, rfl⟩ := h
            exact pG_ret (r := some (.int v114)) rfl ⟨rfl, rfl⟩
    · rw [if_neg hc104] at h
      refine pG_iff (t := 13) rfl rfl hc104 ?_
      refine pG_many 1 (pc1 := 12) (L1 := [some (.ref 0), some (.int p0), some (.int p1), some (.int p2), some (.int p3)]) (st1 := [.int ((-2000000))]) (M1 := mjTo Z) rfl ?_
      simp only [Option.some.injEq, Prod.mk.injEq] at h
      obtain ⟨rfl, rfl⟩ := h
      exact pG_ret (r := some (.int ((-2000000)))) rfl ⟨rfl, rfl⟩
def f176_struckBy (p0 : Int32) (p1 : Int32) (Z : mjZt) : Option Int32 :=
  if mjIs Z.2.2.1 251 2 = true then
  mjBp (f17_hasAct Z.2.2.1 p0 Z) fun v103 =>
  if mjCmp .eq v103 0 = true then
    some ((-2000000))
  else
    mjBp (f16_hasRule Z.2.2.1 p1 Z) fun v107 =>
    if mjCmp .ne v107 0 = true then
      mjBp (f142_rulesStriking 199 p0 Z) fun v111 =>
      some (((v111 : Int32) >>> ((p1 : Int32) &&& 31)) &&& 1)
    else
      some ((-2000000))
  else none
theorem f176_struckBy_ok {p0 : Int32} {p1 : Int32} {Z : mjZt} {v9 : Int32} (h : f176_struckBy p0 p1 Z = some v9) : pG 176 0 (mjEnt [.ref 0, .int p0, .int p1] (mjML 176)) [] (mjTo Z) (fun r M1 => r = some (.int v9) ∧ M1 = mjTo Z) := by
  unfold f176_struckBy at h
  show pG 176 0 [some (.ref 0), some (.int p0), some (.int p1)] [] (mjTo Z) _
  refine pG_many 1 (pc1 := 1) (L1 := [some (.ref 0), some (.int p0), some (.int p1)]) (st1 := [.ref 0]) (M1 := mjTo Z) rfl ?_
  refine pG_getR (ci := 11) (f := 2) (b := Z.2.2.1) rfl rfl rfl (by rfl) rfl ?_
  refine pG_many 1 (pc1 := 5) (L1 := [some (.ref 0), some (.int p0), some (.int p1)]) (st1 := [.int p0, .ref Z.2.2.1]) (M1 := mjTo Z) rfl ?_
  have hk101 : mjIs Z.2.2.1 251 2 = true := by
    by_cases q9 : mjIs Z.2.2.1 251 2 = true
    · exact q9
    · rw [if_neg q9] at h; cases h
  rw [if_pos hk101] at h
  cases hq102 : f17_hasAct Z.2.2.1 p0 Z with
  | none => rw [hq102] at h; cases h
  | some v103 =>
    rw [hq102, mjBp_some] at h
    refine pG_callV (k2 := 17) (As := [.ref Z.2.2.1, .int p0]) (rest := []) rfl rfl rfl rfl rfl (mjRcv_is hk101 (by decide)) (by decide) (f17_hasAct_ok hq102) ?_
    rintro r9 M9 ⟨rfl, rfl⟩
    show pG 176 8 [some (.ref 0), some (.int p0), some (.int p1)] [.int v103] (mjTo Z) _
    by_cases hc105 : mjCmp .eq v103 0 = true
    · rw [if_pos hc105] at h
      refine pG_ift (t := 22) rfl rfl hc105 ?_
      refine pG_many 1 (pc1 := 24) (L1 := [some (.ref 0), some (.int p0), some (.int p1)]) (st1 := [.int ((-2000000))]) (M1 := mjTo Z) rfl ?_
      simp only [Option.some.injEq] at h
      subst h
      exact pG_ret (r := some (.int ((-2000000)))) rfl ⟨rfl, rfl⟩
    · rw [if_neg hc105] at h
      refine pG_iff (t := 22) rfl rfl hc105 ?_
      refine pG_many 1 (pc1 := 12) (L1 := [some (.ref 0), some (.int p0), some (.int p1)]) (st1 := [.ref 0]) (M1 := mjTo Z) rfl ?_
      refine pG_getR (ci := 11) (f := 2) (b := Z.2.2.1) rfl rfl rfl (by rfl) rfl ?_
      refine pG_many 1 (pc1 := 16) (L1 := [some (.ref 0), some (.int p0), some (.int p1)]) (st1 := [.int p1, .ref Z.2.2.1]) (M1 := mjTo Z) rfl ?_
      cases hq106 : f16_hasRule Z.2.2.1 p1 Z with
      | none => rw [hq106] at h; cases h
      | some v107 =>
        rw [hq106, mjBp_some] at h
        refine pG_callV (k2 := 16) (As := [.ref Z.2.2.1, .int p1]) (rest := []) rfl rfl rfl rfl rfl (mjRcv_is hk101 (by decide)) (by decide) (f16_hasRule_ok hq106) ?_
        rintro r9 M9 ⟨rfl, rfl⟩
        show pG 176 19 [some (.ref 0), some (.int p0), some (.int p1)] [.int v107] (mjTo Z) _
        by_cases hc109 : mjCmp .ne v107 0 = true
        · rw [if_pos hc109] at h
          refine pG_ift (t := 25) rfl rfl hc109 ?_
          refine pG_many 1 (pc1 := 26) (L1 := [some (.ref 0), some (.int p0), some (.int p1)]) (st1 := [.ref 0]) (M1 := mjTo Z) rfl ?_
          refine pG_getR (ci := 11) (f := 7) (b := 199) rfl rfl rfl (by rfl) rfl ?_
          refine pG_many 1 (pc1 := 30) (L1 := [some (.ref 0), some (.int p0), some (.int p1)]) (st1 := [.int p0, .ref 199]) (M1 := mjTo Z) rfl ?_
          cases hq110 : f142_rulesStriking 199 p0 Z with
          | none => rw [hq110] at h; cases h
          | some v111 =>
            rw [hq110, mjBp_some] at h
            refine pG_callV (k2 := 142) (As := [.ref 199, .int p0]) (rest := []) rfl rfl rfl rfl rfl (by rfl) (by decide) (f142_rulesStriking_ok hq110) ?_
            rintro r9 M9 ⟨rfl, rfl⟩
            show pG 176 33 [some (.ref 0), some (.int p0), some (.int p1)] [.int v111] (mjTo Z) _
            refine pG_many 4 (pc1 := 37) (L1 := [some (.ref 0), some (.int p0), some (.int p1)]) (st1 := [.int (((v111 : Int32) >>> ((p1 : Int32) &&& 31)) &&& 1)]) (M1 := mjTo Z) rfl ?_
            simp only [Option.some.injEq] at h
            subst h
            exact pG_ret (r := some (.int (((v111 : Int32) >>> ((p1 : Int32) &&& 31)) &&& 1))) rfl ⟨rfl, rfl⟩
        · rw [if_neg hc109] at h
          refine pG_iff (t := 25) rfl rfl hc109 ?_
          refine pG_many 1 (pc1 := 24) (L1 := [some (.ref 0), some (.int p0), some (.int p1)]) (st1 := [.int ((-2000000))]) (M1 := mjTo Z) rfl ?_
          simp only [Option.some.injEq] at h
          subst h
          exact pG_ret (r := some (.int ((-2000000)))) rfl ⟨rfl, rfl⟩
def f177_clean (p0 : Int32) (p1 : Int32) (Z : mjZt) : Option (Int32 × mjZt) :=
  if mjIs Z.2.2.1 251 2 = true then
  mjBp (f18_wasTold Z.2.2.1 p0 Z) fun v103 =>
  if mjCmp .eq v103 0 = true then
    some ((-2000000), Z)
  else
    if mjCmp .lt p1 0 = true then
      some ((-2000000), Z)
    else
      if mjCmp .le p1 2 = true then
        mjBd (f94_tally Z.2.2.1 p0 1 p1 Z) fun v109 Z110 =>
        some (v109, Z110)
      else
        some ((-2000000), Z)
  else none
theorem f177_clean_ok {p0 : Int32} {p1 : Int32} {Z : mjZt} {v9 : Int32} {Z9 : mjZt} (h : f177_clean p0 p1 Z = some (v9, Z9)) : pG 177 0 (mjEnt [.ref 0, .int p0, .int p1] (mjML 177)) [] (mjTo Z) (fun r M1 => r = some (.int v9) ∧ M1 = mjTo Z9) := by
  unfold f177_clean at h
  show pG 177 0 [some (.ref 0), some (.int p0), some (.int p1)] [] (mjTo Z) _
  refine pG_many 1 (pc1 := 1) (L1 := [some (.ref 0), some (.int p0), some (.int p1)]) (st1 := [.ref 0]) (M1 := mjTo Z) rfl ?_
  refine pG_getR (ci := 11) (f := 2) (b := Z.2.2.1) rfl rfl rfl (by rfl) rfl ?_
  refine pG_many 1 (pc1 := 5) (L1 := [some (.ref 0), some (.int p0), some (.int p1)]) (st1 := [.int p0, .ref Z.2.2.1]) (M1 := mjTo Z) rfl ?_
  have hk101 : mjIs Z.2.2.1 251 2 = true := by
    by_cases q9 : mjIs Z.2.2.1 251 2 = true
    · exact q9
    · rw [if_neg q9] at h; cases h
  rw [if_pos hk101] at h
  cases hq102 : f18_wasTold Z.2.2.1 p0 Z with
  | none => rw [hq102] at h; cases h
  | some v103 =>
    rw [hq102, mjBp_some] at h
    refine pG_callV (k2 := 18) (As := [.ref Z.2.2.1, .int p0]) (rest := []) rfl rfl rfl rfl rfl (mjRcv_is hk101 (by decide)) (by decide) (f18_wasTold_ok hq102) ?_
    rintro r9 M9 ⟨rfl, rfl⟩
    show pG 177 8 [some (.ref 0), some (.int p0), some (.int p1)] [.int v103] (mjTo Z) _
    by_cases hc105 : mjCmp .eq v103 0 = true
    · rw [if_pos hc105] at h
      refine pG_ift (t := 20) rfl rfl hc105 ?_
      refine pG_many 1 (pc1 := 22) (L1 := [some (.ref 0), some (.int p0), some (.int p1)]) (st1 := [.int ((-2000000))]) (M1 := mjTo Z) rfl ?_
      simp only [Option.some.injEq, Prod.mk.injEq] at h
      obtain ⟨rfl, rfl⟩ := h
      exact pG_ret (r := some (.int ((-2000000)))) rfl ⟨rfl, rfl⟩
    · rw [if_neg hc105] at h
      refine pG_iff (t := 20) rfl rfl hc105 ?_
      refine pG_many 1 (pc1 := 12) (L1 := [some (.ref 0), some (.int p0), some (.int p1)]) (st1 := [.int p1]) (M1 := mjTo Z) rfl ?_
      by_cases hc106 : mjCmp .lt p1 0 = true
      · rw [if_pos hc106] at h
        refine pG_ift (t := 20) rfl rfl hc106 ?_
        refine pG_many 1 (pc1 := 22) (L1 := [some (.ref 0), some (.int p0), some (.int p1)]) (st1 := [.int ((-2000000))]) (M1 := mjTo Z) rfl ?_
        simp only [Option.some.injEq, Prod.mk.injEq] at h
        obtain ⟨rfl, rfl⟩ := h
        exact pG_ret (r := some (.int ((-2000000)))) rfl ⟨rfl, rfl⟩
      · rw [if_neg hc106] at h
        refine pG_iff (t := 20) rfl rfl hc106 ?_
        refine pG_many 2 (pc1 := 17) (L1 := [some (.ref 0), some (.int p0), some (.int p1)]) (st1 := [.int 2, .int p1]) (M1 := mjTo Z) rfl ?_
        by_cases hc107 : mjCmp .le p1 2 = true
        · rw [if_pos hc107] at h
          refine pG_cmt (t := 23) rfl rfl hc107 ?_
          refine pG_many 1 (pc1 := 24) (L1 := [some (.ref 0), some (.int p0), some (.int p1)]) (st1 := [.ref 0]) (M1 := mjTo Z) rfl ?_
          refine pG_getR (ci := 11) (f := 6) (b := 190) rfl rfl rfl (by rfl) rfl ?_
          refine pG_many 1 (pc1 := 28) (L1 := [some (.ref 0), some (.int p0), some (.int p1)]) (st1 := [.ref 0, .ref 190]) (M1 := mjTo Z) rfl ?_
          refine pG_getR (ci := 11) (f := 2) (b := Z.2.2.1) rfl rfl rfl (by rfl) rfl ?_
          refine pG_many 3 (pc1 := 34) (L1 := [some (.ref 0), some (.int p0), some (.int p1)]) (st1 := [.int p1, .int 1, .int p0, .ref Z.2.2.1, .ref 190]) (M1 := mjTo Z) rfl ?_
          cases hq108 : f94_tally Z.2.2.1 p0 1 p1 Z with
          | none => rw [hq108] at h; cases h
          | some w =>
            obtain ⟨v109, Z110⟩ := w
            rw [hq108, mjBd_some] at h
            refine pG_callV (k2 := 94) (As := [.ref 190, .ref Z.2.2.1, .int p0, .int 1, .int p1]) (rest := []) rfl rfl rfl rfl rfl (by rfl) (by decide) (f94_tally_ok hq108) ?_
            rintro r9 M9 ⟨rfl, rfl⟩
            show pG 177 37 [some (.ref 0), some (.int p0), some (.int p1)] [.int v109] (mjTo Z110) _
            simp only [Option.some.injEq, Prod.mk.injEq] at h
            obtain ⟨rfl, rfl⟩ := h
            exact pG_ret (r := some (.int v109)) rfl ⟨rfl, rfl⟩
        · rw [if_neg hc107] at h
          refine pG_cmf (t := 23) rfl rfl hc107 ?_
          refine pG_many 1 (pc1 := 22) (L1 := [some (.ref 0), some (.int p0), some (.int p1)]) (st1 := [.int ((-2000000))]) (M1 := mjTo Z) rfl ?_
          simp only [Option.some.injEq, Prod.mk.injEq] at h
          obtain ⟨rfl, rfl⟩ := h
          exact pG_ret (r := some (.int ((-2000000)))) rfl ⟨rfl, rfl⟩
def f178_free (p0 : Int32) (p1 : Int32) (Z : mjZt) : Option (Int32 × mjZt) :=
  if mjIs Z.2.2.1 251 2 = true then
  mjBp (f18_wasTold Z.2.2.1 p0 Z) fun v103 =>
  if mjCmp .eq v103 0 = true then
    some ((-2000000), Z)
  else
    if mjCmp .lt p1 0 = true then
      some ((-2000000), Z)
    else
      if mjCmp .le p1 2 = true then
        mjBd (f94_tally Z.2.2.1 p0 0 p1 Z) fun v109 Z110 =>
        some (v109, Z110)
      else
        some ((-2000000), Z)
  else none
theorem f178_free_ok {p0 : Int32} {p1 : Int32} {Z : mjZt} {v9 : Int32} {Z9 : mjZt} (h : f178_free p0 p1 Z = some (v9, Z9)) : pG 178 0 (mjEnt [.ref 0, .int p0, .int p1] (mjML 178)) [] (mjTo Z) (fun r M1 => r = some (.int v9) ∧ M1 = mjTo Z9) := by
  unfold f178_free at h
  show pG 178 0 [some (.ref 0), some (.int p0), some (.int p1)] [] (mjTo Z) _
  refine pG_many 1 (pc1 := 1) (L1 := [some (.ref 0), some (.int p0), some (.int p1)]) (st1 := [.ref 0]) (M1 := mjTo Z) rfl ?_
  refine pG_getR (ci := 11) (f := 2) (b := Z.2.2.1) rfl rfl rfl (by rfl) rfl ?_
  refine pG_many 1 (pc1 := 5) (L1 := [some (.ref 0), some (.int p0), some (.int p1)]) (st1 := [.int p0, .ref Z.2.2.1]) (M1 := mjTo Z) rfl ?_
  have hk101 : mjIs Z.2.2.1 251 2 = true := by
    by_cases q9 : mjIs Z.2.2.1 251 2 = true
    · exact q9
    · rw [if_neg q9] at h; cases h
  rw [if_pos hk101] at h
  cases hq102 : f18_wasTold Z.2.2.1 p0 Z with
  | none => rw [hq102] at h; cases h
  | some v103 =>
    rw [hq102, mjBp_some] at h
    refine pG_callV (k2 := 18) (As := [.ref Z.2.2.1, .int p0]) (rest := []) rfl rfl rfl rfl rfl (mjRcv_is hk101 (by decide)) (by decide) (f18_wasTold_ok hq102) ?_
    rintro r9 M9 ⟨rfl, rfl⟩
    show pG 178 8 [some (.ref 0), some (.int p0), some (.int p1)] [.int v103] (mjTo Z) _
    by_cases hc105 : mjCmp .eq v103 0 = true
    · rw [if_pos hc105] at h
      refine pG_ift (t := 20) rfl rfl hc105 ?_
      refine pG_many 1 (pc1 := 22) (L1 := [some (.ref 0), some (.int p0), some (.int p1)]) (st1 := [.int ((-2000000))]) (M1 := mjTo Z) rfl ?_
      simp only [Option.some.injEq, Prod.mk.injEq] at h
      obtain ⟨rfl, rfl⟩ := h
      exact pG_ret (r := some (.int ((-2000000)))) rfl ⟨rfl, rfl⟩
    · rw [if_neg hc105] at h
      refine pG_iff (t := 20) rfl rfl hc105 ?_
      refine pG_many 1 (pc1 := 12) (L1 := [some (.ref 0), some (.int p0), some (.int p1)]) (st1 := [.int p1]) (M1 := mjTo Z) rfl ?_
      by_cases hc106 : mjCmp .lt p1 0 = true
      · rw [if_pos hc106] at h
        refine pG_ift (t := 20) rfl rfl hc106 ?_
        refine pG_many 1 (pc1 := 22) (L1 := [some (.ref 0), some (.int p0), some (.int p1)]) (st1 := [.int ((-2000000))]) (M1 := mjTo Z) rfl ?_
        simp only [Option.some.injEq, Prod.mk.injEq] at h
        obtain ⟨rfl, rfl⟩ := h
        exact pG_ret (r := some (.int ((-2000000)))) rfl ⟨rfl, rfl⟩
      · rw [if_neg hc106] at h
        refine pG_iff (t := 20) rfl rfl hc106 ?_
        refine pG_many 2 (pc1 := 17) (L1 := [some (.ref 0), some (.int p0), some (.int p1)]) (st1 := [.int 2, .int p1]) (M1 := mjTo Z) rfl ?_
        by_cases hc107 : mjCmp .le p1 2 = true
        · rw [if_pos hc107] at h
          refine pG_cmt (t := 23) rfl rfl hc107 ?_
          refine pG_many 1 (pc1 := 24) (L1 := [some (.ref 0), some (.int p0), some (.int p1)]) (st1 := [.ref 0]) (M1 := mjTo Z) rfl ?_
          refine pG_getR (ci := 11) (f := 6) (b := 190) rfl rfl rfl (by rfl) rfl ?_
          refine pG_many 1 (pc1 := 28) (L1 := [some (.ref 0), some (.int p0), some (.int p1)]) (st1 := [.ref 0, .ref 190]) (M1 := mjTo Z) rfl ?_
          refine pG_getR (ci := 11) (f := 2) (b := Z.2.2.1) rfl rfl rfl (by rfl) rfl ?_
          refine pG_many 3 (pc1 := 34) (L1 := [some (.ref 0), some (.int p0), some (.int p1)]) (st1 := [.int p1, .int 0, .int p0, .ref Z.2.2.1, .ref 190]) (M1 := mjTo Z) rfl ?_
          cases hq108 : f94_tally Z.2.2.1 p0 0 p1 Z with
          | none => rw [hq108] at h; cases h
          | some w =>
            obtain ⟨v109, Z110⟩ := w
            rw [hq108, mjBd_some] at h
            refine pG_callV (k2 := 94) (As := [.ref 190, .ref Z.2.2.1, .int p0, .int 0, .int p1]) (rest := []) rfl rfl rfl rfl rfl (by rfl) (by decide) (f94_tally_ok hq108) ?_
            rintro r9 M9 ⟨rfl, rfl⟩
            show pG 178 37 [some (.ref 0), some (.int p0), some (.int p1)] [.int v109] (mjTo Z110) _
            simp only [Option.some.injEq, Prod.mk.injEq] at h
            obtain ⟨rfl, rfl⟩ := h
            exact pG_ret (r := some (.int v109)) rfl ⟨rfl, rfl⟩
        · rw [if_neg hc107] at h
          refine pG_cmf (t := 23) rfl rfl hc107 ?_
          refine pG_many 1 (pc1 := 22) (L1 := [some (.ref 0), some (.int p0), some (.int p1)]) (st1 := [.int ((-2000000))]) (M1 := mjTo Z) rfl ?_
          simp only [Option.some.injEq, Prod.mk.injEq] at h
          obtain ⟨rfl, rfl⟩ := h
          exact pG_ret (r := some (.int ((-2000000)))) rfl ⟨rfl, rfl⟩
def f179_struck (p0 : Int32) (p1 : Int32) (Z : mjZt) : Option Int32 :=
  if mjIs Z.2.2.1 251 2 = true then
  mjBp (f7_hasTeam Z.2.2.1 p0 Z) fun v103 =>
  if mjCmp .ne v103 0 = true then
    mjBp (f144_firstStruckAct 199 Z.2.2.1 p0 Z) fun v107 =>
    if (p1).toInt < 0 ∨ 2 < (p1).toInt then
      some ((-1))
    else if ((p1).toInt - 0).toNat = 0 then
      some v107
    else if ((p1).toInt - 0).toNat = 1 then
      mjBp (f143_firstRuleStriking 199 v107 Z) fun v113 =>
      some v113
    else if ((p1).toInt - 0).toNat = 2 then
      mjBp (f145_struckActs 199 Z.2.2.1 p0 Z) fun v117 =>
      some v117
    else none
  else
    some ((-1))
  else none
theorem f179_struck_ok {p0 : Int32} {p1 : Int32} {Z : mjZt} {v9 : Int32} (h : f179_struck p0 p1 Z = some v9) : pG 179 0 (mjEnt [.ref 0, .int p0, .int p1] (mjML 179)) [] (mjTo Z) (fun r M1 => r = some (.int v9) ∧ M1 = mjTo Z) := by
  unfold f179_struck at h
  show pG 179 0 [some (.ref 0), some (.int p0), some (.int p1), none] [] (mjTo Z) _
  refine pG_many 1 (pc1 := 1) (L1 := [some (.ref 0), some (.int p0), some (.int p1), none]) (st1 := [.ref 0]) (M1 := mjTo Z) rfl ?_
  refine pG_getR (ci := 11) (f := 2) (b := Z.2.2.1) rfl rfl rfl (by rfl) rfl ?_
  refine pG_many 1 (pc1 := 5) (L1 := [some (.ref 0), some (.int p0), some (.int p1), none]) (st1 := [.int p0, .ref Z.2.2.1]) (M1 := mjTo Z) rfl ?_
  have hk101 : mjIs Z.2.2.1 251 2 = true := by
    by_cases q9 : mjIs Z.2.2.1 251 2 = true
    · exact q9
    · rw [if_neg q9] at h; cases h
  rw [if_pos hk101] at h
  cases hq102 : f7_hasTeam Z.2.2.1 p0 Z with
  | none => rw [hq102] at h; cases h
  | some v103 =>
    rw [hq102, mjBp_some] at h
    refine pG_callV (k2 := 7) (As := [.ref Z.2.2.1, .int p0]) (rest := []) rfl rfl rfl rfl rfl (mjRcv_is hk101 (by decide)) (by decide) (f7_hasTeam_ok hq102) ?_
    rintro r9 M9 ⟨rfl, rfl⟩
    show pG 179 8 [some (.ref 0), some (.int p0), some (.int p1), none] [.int v103] (mjTo Z) _
    by_cases hc105 : mjCmp .ne v103 0 = true
    · rw [if_pos hc105] at h
      refine pG_ift (t := 13) rfl rfl hc105 ?_
      refine pG_many 1 (pc1 := 14) (L1 := [some (.ref 0), some (.int p0), some (.int p1), none]) (st1 := [.ref 0]) (M1 := mjTo Z) rfl ?_
      refine pG_getR (ci := 11) (f := 7) (b := 199) rfl rfl rfl (by rfl) rfl ?_
      refine pG_many 1 (pc1 := 18) (L1 := [some (.ref 0), some (.int p0), some (.int p1), none]) (st1 := [.ref 0, .ref 199]) (M1 := mjTo Z) rfl ?_
      refine pG_getR (ci := 11) (f := 2) (b := Z.2.2.1) rfl rfl rfl (by rfl) rfl ?_
      refine pG_many 1 (pc1 := 22) (L1 := [some (.ref 0), some (.int p0), some (.int p1), none]) (st1 := [.int p0, .ref Z.2.2.1, .ref 199]) (M1 := mjTo Z) rfl ?_
      cases hq106 : f144_firstStruckAct 199 Z.2.2.1 p0 Z with
      | none => rw [hq106] at h; cases h
      | some v107 =>
        rw [hq106, mjBp_some] at h
        refine pG_callV (k2 := 144) (As := [.ref 199, .ref Z.2.2.1, .int p0]) (rest := []) rfl rfl rfl rfl rfl (by rfl) (by decide) (f144_firstStruckAct_ok hq106) ?_
        rintro r9 M9 ⟨rfl, rfl⟩
        show pG 179 25 [some (.ref 0), some (.int p0), some (.int p1), none] [.int v107] (mjTo Z) _
        refine pG_many 2 (pc1 := 27) (L1 := [some (.ref 0), some (.int p0), some (.int p1), some (.int v107)]) (st1 := [.int p1]) (M1 := mjTo Z) rfl ?_
        by_cases hs109 : (p1).toInt < 0 ∨ 2 < (p1).toInt
        · rw [if_pos hs109] at h
          refine pG_tso (t := 76) rfl hs109 rfl ?_
          refine pG_many 1 (pc1 := 77) (L1 := [some (.ref 0), some (.int p0), some (.int p1), some (.int v107)]) (st1 := [.int ((-1))]) (M1 := mjTo Z) rfl ?_
          simp only [Option.some.injEq] at h
          subst h
          exact pG_ret (r := some (.int ((-1)))) rfl ⟨rfl, rfl⟩
        rw [if_neg hs109] at h
        by_cases hs110 : ((p1).toInt - 0).toNat = 0
        · rw [if_pos hs110] at h
          refine pG_tsi (t := 52) (j := 0) (o := 25) rfl hs109 hs110 rfl rfl ?_
          refine pG_many 1 (pc1 := 53) (L1 := [some (.ref 0), some (.int p0), some (.int p1), some (.int v107)]) (st1 := [.int v107]) (M1 := mjTo Z) rfl ?_
          simp only [Option.some.injEq] at h
          subst h
          exact pG_ret (r := some (.int v107)) rfl ⟨rfl, rfl⟩
        rw [if_neg hs110] at h
        by_cases hs111 : ((p1).toInt - 0).toNat = 1
        · rw [if_pos hs111] at h
          refine pG_tsi (t := 54) (j := 1) (o := 27) rfl hs109 hs111 rfl rfl ?_
          refine pG_many 1 (pc1 := 55) (L1 := [some (.ref 0), some (.int p0), some (.int p1), some (.int v107)]) (st1 := [.ref 0]) (M1 := mjTo Z) rfl ?_
          refine pG_getR (ci := 11) (f := 7) (b := 199) rfl rfl rfl (by rfl) rfl ?_
          refine pG_many 1 (pc1 := 59) (L1 := [some (.ref 0), some (.int p0), some (.int p1), some (.int v107)]) (st1 := [.int v107, .ref 199]) (M1 := mjTo Z) rfl ?_
          cases hq112 : f143_firstRuleStriking 199 v107 Z with
          | none => rw [hq112] at h; cases h
          | some v113 =>
            rw [hq112, mjBp_some] at h
            refine pG_callV (k2 := 143) (As := [.ref 199, .int v107]) (rest := []) rfl rfl rfl rfl rfl (by rfl) (by decide) (f143_firstRuleStriking_ok hq112) ?_
            rintro r9 M9 ⟨rfl, rfl⟩
            show pG 179 62 [some (.ref 0), some (.int p0), some (.int p1), some (.int v107)] [.int v113] (mjTo Z) _
            simp only [Option.some.injEq] at h
            subst h
            exact pG_ret (r := some (.int v113)) rfl ⟨rfl, rfl⟩
        rw [if_neg hs111] at h
        by_cases hs115 : ((p1).toInt - 0).toNat = 2
        · rw [if_pos hs115] at h
          refine pG_tsi (t := 63) (j := 2) (o := 36) rfl hs109 hs115 rfl rfl ?_
          refine pG_many 1 (pc1 := 64) (L1 := [some (.ref 0), some (.int p0), some (.int p1), some (.int v107)]) (st1 := [.ref 0]) (M1 := mjTo Z) rfl ?_
          refine pG_getR (ci := 11) (f := 7) (b := 199) rfl rfl rfl (by rfl) rfl ?_
          refine pG_many 1 (pc1 := 68) (L1 := [some (.ref 0), some (.int p0), some (.int p1), some (.int v107)]) (st1 := [.ref 0, .ref 199]) (M1 := mjTo Z) rfl ?_
          refine pG_getR (ci := 11) (f := 2) (b := Z.2.2.1) rfl rfl rfl (by rfl) rfl ?_
          refine pG_many 1 (pc1 := 72) (L1 := [some (.ref 0), some (.int p0), some (.int p1), some (.int v107)]) (st1 := [.int p0, .ref Z.2.2.1, .ref 199]) (M1 := mjTo Z) rfl ?_
          cases hq116 : f145_struckActs 199 Z.2.2.1 p0 Z with
          | none => rw [hq116] at h; cases h
          | some v117 =>
            rw [hq116, mjBp_some] at h
            refine pG_callV (k2 := 145) (As := [.ref 199, .ref Z.2.2.1, .int p0]) (rest := []) rfl rfl rfl rfl rfl (by rfl) (by decide) (f145_struckActs_ok hq116) ?_
            rintro r9 M9 ⟨rfl, rfl⟩
            show pG 179 75 [some (.ref 0), some (.int p0), some (.int p1), some (.int v107)] [.int v117] (mjTo Z) _
            simp only [Option.some.injEq] at h
            subst h
            exact pG_ret (r := some (.int v117)) rfl ⟨rfl, rfl⟩
        rw [if_neg hs115] at h
        cases h
    · rw [if_neg hc105] at h
      refine pG_iff (t := 13) rfl rfl hc105 ?_
      refine pG_many 1 (pc1 := 12) (L1 := [some (.ref 0), some (.int p0), some (.int p1), none]) (st1 := [.int ((-1))]) (M1 := mjTo Z) rfl ?_
      simp only [Option.some.injEq] at h
      subst h
      exact pG_ret (r := some (.int ((-1)))) rfl ⟨rfl, rfl⟩
def f180_rank (p0 : Int32) (Z : mjZt) : Option Int32 :=
  if mjIs Z.2.2.1 251 2 = true then
  mjBp (f7_hasTeam Z.2.2.1 p0 Z) fun v103 =>
  if mjCmp .eq v103 0 = true then
    some ((-1))
  else
    mjBp (f137_rankByTime 199 p0 Z) fun v107 =>
    some v107
  else none
theorem f180_rank_ok {p0 : Int32} {Z : mjZt} {v9 : Int32} (h : f180_rank p0 Z = some v9) : pG 180 0 (mjEnt [.ref 0, .int p0] (mjML 180)) [] (mjTo Z) (fun r M1 => r = some (.int v9) ∧ M1 = mjTo Z) := by
  unfold f180_rank at h
  show pG 180 0 [some (.ref 0), some (.int p0)] [] (mjTo Z) _
  refine pG_many 1 (pc1 := 1) (L1 := [some (.ref 0), some (.int p0)]) (st1 := [.ref 0]) (M1 := mjTo Z) rfl ?_
  refine pG_getR (ci := 11) (f := 2) (b := Z.2.2.1) rfl rfl rfl (by rfl) rfl ?_
  refine pG_many 1 (pc1 := 5) (L1 := [some (.ref 0), some (.int p0)]) (st1 := [.int p0, .ref Z.2.2.1]) (M1 := mjTo Z) rfl ?_
  have hk101 : mjIs Z.2.2.1 251 2 = true := by
    by_cases q9 : mjIs Z.2.2.1 251 2 = true
    · exact q9
    · rw [if_neg q9] at h; cases h
  rw [if_pos hk101] at h
  cases hq102 : f7_hasTeam Z.2.2.1 p0 Z with
  | none => rw [hq102] at h; cases h
  | some v103 =>
    rw [hq102, mjBp_some] at h
    refine pG_callV (k2 := 7) (As := [.ref Z.2.2.1, .int p0]) (rest := []) rfl rfl rfl rfl rfl (mjRcv_is hk101 (by decide)) (by decide) (f7_hasTeam_ok hq102) ?_
    rintro r9 M9 ⟨rfl, rfl⟩
    show pG 180 8 [some (.ref 0), some (.int p0)] [.int v103] (mjTo Z) _
    by_cases hc105 : mjCmp .eq v103 0 = true
    · rw [if_pos hc105] at h
      refine pG_ift (t := 22) rfl rfl hc105 ?_
      refine pG_many 1 (pc1 := 23) (L1 := [some (.ref 0), some (.int p0)]) (st1 := [.int ((-1))]) (M1 := mjTo Z) rfl ?_
      simp only [Option.some.injEq] at h
      subst h
      exact pG_ret (r := some (.int ((-1)))) rfl ⟨rfl, rfl⟩
    · rw [if_neg hc105] at h
      refine pG_iff (t := 22) rfl rfl hc105 ?_
      refine pG_many 1 (pc1 := 12) (L1 := [some (.ref 0), some (.int p0)]) (st1 := [.ref 0]) (M1 := mjTo Z) rfl ?_
      refine pG_getR (ci := 11) (f := 7) (b := 199) rfl rfl rfl (by rfl) rfl ?_
      refine pG_many 1 (pc1 := 16) (L1 := [some (.ref 0), some (.int p0)]) (st1 := [.int p0, .ref 199]) (M1 := mjTo Z) rfl ?_
      cases hq106 : f137_rankByTime 199 p0 Z with
      | none => rw [hq106] at h; cases h
      | some v107 =>
        rw [hq106, mjBp_some] at h
        refine pG_callV (k2 := 137) (As := [.ref 199, .int p0]) (rest := []) rfl rfl rfl rfl rfl (by rfl) (by decide) (f137_rankByTime_ok hq106) ?_
        rintro r9 M9 ⟨rfl, rfl⟩
        show pG 180 19 [some (.ref 0), some (.int p0)] [.int v107] (mjTo Z) _
        refine pG_many 1 (pc1 := 23) (L1 := [some (.ref 0), some (.int p0)]) (st1 := [.int v107]) (M1 := mjTo Z) rfl ?_
        simp only [Option.some.injEq] at h
        subst h
        exact pG_ret (r := some (.int v107)) rfl ⟨rfl, rfl⟩
def f181_result (p0 : Int32) (Z : mjZt) : Option Int32 :=
  mjBp (f140_kthOfResult 199 Z.2.2.1 p0 Z) fun v102 =>
  some v102
theorem f181_result_ok {p0 : Int32} {Z : mjZt} {v9 : Int32} (h : f181_result p0 Z = some v9) : pG 181 0 (mjEnt [.ref 0, .int p0] (mjML 181)) [] (mjTo Z) (fun r M1 => r = some (.int v9) ∧ M1 = mjTo Z) := by
  unfold f181_result at h
  show pG 181 0 [some (.ref 0), some (.int p0)] [] (mjTo Z) _
  refine pG_many 1 (pc1 := 1) (L1 := [some (.ref 0), some (.int p0)]) (st1 := [.ref 0]) (M1 := mjTo Z) rfl ?_
  refine pG_getR (ci := 11) (f := 7) (b := 199) rfl rfl rfl (by rfl) rfl ?_
  refine pG_many 1 (pc1 := 5) (L1 := [some (.ref 0), some (.int p0)]) (st1 := [.ref 0, .ref 199]) (M1 := mjTo Z) rfl ?_
  refine pG_getR (ci := 11) (f := 2) (b := Z.2.2.1) rfl rfl rfl (by rfl) rfl ?_
  refine pG_many 1 (pc1 := 9) (L1 := [some (.ref 0), some (.int p0)]) (st1 := [.int p0, .ref Z.2.2.1, .ref 199]) (M1 := mjTo Z) rfl ?_
  cases hq101 : f140_kthOfResult 199 Z.2.2.1 p0 Z with
  | none => rw [hq101] at h; cases h
  | some v102 =>
    rw [hq101, mjBp_some] at h
    refine pG_callV (k2 := 140) (As := [.ref 199, .ref Z.2.2.1, .int p0]) (rest := []) rfl rfl rfl rfl rfl (by rfl) (by decide) (f140_kthOfResult_ok hq101) ?_
    rintro r9 M9 ⟨rfl, rfl⟩
    show pG 181 12 [some (.ref 0), some (.int p0)] [.int v102] (mjTo Z) _
    simp only [Option.some.injEq] at h
    subst h
    exact pG_ret (r := some (.int v102)) rfl ⟨rfl, rfl⟩
def f182_who (p0 : Int32) (Z : mjZt) : Option Int32 :=
  if (p0).toInt < 0 ∨ 4 < (p0).toInt then
    some ((-1))
  else if ((p0).toInt - 0).toNat = 0 then
    some (Z.1 199 4)
  else if ((p0).toInt - 0).toNat = 1 then
    some (Z.1 199 5)
  else if ((p0).toInt - 0).toNat = 2 then
    some (Z.1 199 6)
  else if ((p0).toInt - 0).toNat = 3 then
    some (Z.1 199 7)
  else if ((p0).toInt - 0).toNat = 4 then
    some (Z.1 199 8)
  else none
theorem f182_who_ok {p0 : Int32} {Z : mjZt} {v9 : Int32} (h : f182_who p0 Z = some v9) : pG 182 0 (mjEnt [.ref 0, .int p0] (mjML 182)) [] (mjTo Z) (fun r M1 => r = some (.int v9) ∧ M1 = mjTo Z) := by
  unfold f182_who at h
  show pG 182 0 [some (.ref 0), some (.int p0)] [] (mjTo Z) _
  refine pG_many 1 (pc1 := 1) (L1 := [some (.ref 0), some (.int p0)]) (st1 := [.int p0]) (M1 := mjTo Z) rfl ?_
  by_cases hs101 : (p0).toInt < 0 ∨ 4 < (p0).toInt
  · rw [if_pos hs101] at h
    refine pG_tso (t := 76) rfl hs101 rfl ?_
    refine pG_many 1 (pc1 := 77) (L1 := [some (.ref 0), some (.int p0)]) (st1 := [.int ((-1))]) (M1 := mjTo Z) rfl ?_
    simp only [Option.some.injEq] at h
    subst h
    exact pG_ret (r := some (.int ((-1)))) rfl ⟨rfl, rfl⟩
  rw [if_neg hs101] at h
  by_cases hs102 : ((p0).toInt - 0).toNat = 0
  · rw [if_pos hs102] at h
    refine pG_tsi (t := 36) (j := 0) (o := 35) rfl hs101 hs102 rfl rfl ?_
    refine pG_many 1 (pc1 := 37) (L1 := [some (.ref 0), some (.int p0)]) (st1 := [.ref 0]) (M1 := mjTo Z) rfl ?_
    refine pG_getR (ci := 11) (f := 7) (b := 199) rfl rfl rfl (by rfl) rfl ?_
    refine pG_getI (ci := 10) (f := 4) rfl rfl (Or.inl rfl) (by rfl) ?_
    simp only [Option.some.injEq] at h
    subst h
    exact pG_ret (r := some (.int (Z.1 199 4))) rfl ⟨rfl, rfl⟩
  rw [if_neg hs102] at h
  by_cases hs103 : ((p0).toInt - 0).toNat = 1
  · rw [if_pos hs103] at h
    refine pG_tsi (t := 44) (j := 1) (o := 43) rfl hs101 hs103 rfl rfl ?_
    refine pG_many 1 (pc1 := 45) (L1 := [some (.ref 0), some (.int p0)]) (st1 := [.ref 0]) (M1 := mjTo Z) rfl ?_
    refine pG_getR (ci := 11) (f := 7) (b := 199) rfl rfl rfl (by rfl) rfl ?_
    refine pG_getI (ci := 10) (f := 5) rfl rfl (Or.inl rfl) (by rfl) ?_
    simp only [Option.some.injEq] at h
    subst h
    exact pG_ret (r := some (.int (Z.1 199 5))) rfl ⟨rfl, rfl⟩
  rw [if_neg hs103] at h
  by_cases hs104 : ((p0).toInt - 0).toNat = 2
  · rw [if_pos hs104] at h
    refine pG_tsi (t := 52) (j := 2) (o := 51) rfl hs101 hs104 rfl rfl ?_
    refine pG_many 1 (pc1 := 53) (L1 := [some (.ref 0), some (.int p0)]) (st1 := [.ref 0]) (M1 := mjTo Z) rfl ?_
    refine pG_getR (ci := 11) (f := 7) (b := 199) rfl rfl rfl (by rfl) rfl ?_
    refine pG_getI (ci := 10) (f := 6) rfl rfl (Or.inl rfl) (by rfl) ?_
    simp only [Option.some.injEq] at h
    subst h
    exact pG_ret (r := some (.int (Z.1 199 6))) rfl ⟨rfl, rfl⟩
  rw [if_neg hs104] at h
  by_cases hs105 : ((p0).toInt - 0).toNat = 3
  · rw [if_pos hs105] at h
    refine pG_tsi (t := 60) (j := 3) (o := 59) rfl hs101 hs105 rfl rfl ?_
    refine pG_many 1 (pc1 := 61) (L1 := [some (.ref 0), some (.int p0)]) (st1 := [.ref 0]) (M1 := mjTo Z) rfl ?_
    refine pG_getR (ci := 11) (f := 7) (b := 199) rfl rfl rfl (by rfl) rfl ?_
    refine pG_getI (ci := 10) (f := 7) rfl rfl (Or.inl rfl) (by rfl) ?_
    simp only [Option.some.injEq] at h
    subst h
    exact pG_ret (r := some (.int (Z.1 199 7))) rfl ⟨rfl, rfl⟩
  rw [if_neg hs105] at h
  by_cases hs106 : ((p0).toInt - 0).toNat = 4
  · rw [if_pos hs106] at h
    refine pG_tsi (t := 68) (j := 4) (o := 67) rfl hs101 hs106 rfl rfl ?_
    refine pG_many 1 (pc1 := 69) (L1 := [some (.ref 0), some (.int p0)]) (st1 := [.ref 0]) (M1 := mjTo Z) rfl ?_
    refine pG_getR (ci := 11) (f := 7) (b := 199) rfl rfl rfl (by rfl) rfl ?_
    refine pG_getI (ci := 10) (f := 8) rfl rfl (Or.inl rfl) (by rfl) ?_
    simp only [Option.some.injEq] at h
    subst h
    exact pG_ret (r := some (.int (Z.1 199 8))) rfl ⟨rfl, rfl⟩
  rw [if_neg hs106] at h
  cases h
def f183_would (p0 : Int32) (Z : mjZt) : Option Int32 :=
  if mjIs Z.2.2.1 251 2 = true then
  mjBp (f7_hasTeam Z.2.2.1 p0 Z) fun v103 =>
  if mjCmp .ne v103 0 = true then
    mjBp (f23_isWhole Z.2.2.1 p0 Z) fun v107 =>
    if mjCmp .eq v107 0 = true then
      some ((-2))
    else
      mjBp (f139_wouldOf 199 p0 Z) fun v111 =>
      some v111
  else
    some ((-1))
  else none
theorem f183_would_ok {p0 : Int32} {Z : mjZt} {v9 : Int32} (h : f183_would p0 Z = some v9) : pG 183 0 (mjEnt [.ref 0, .int p0] (mjML 183)) [] (mjTo Z) (fun r M1 => r = some (.int v9) ∧ M1 = mjTo Z) := by
  unfold f183_would at h
  show pG 183 0 [some (.ref 0), some (.int p0)] [] (mjTo Z) _
  refine pG_many 1 (pc1 := 1) (L1 := [some (.ref 0), some (.int p0)]) (st1 := [.ref 0]) (M1 := mjTo Z) rfl ?_
  refine pG_getR (ci := 11) (f := 2) (b := Z.2.2.1) rfl rfl rfl (by rfl) rfl ?_
  refine pG_many 1 (pc1 := 5) (L1 := [some (.ref 0), some (.int p0)]) (st1 := [.int p0, .ref Z.2.2.1]) (M1 := mjTo Z) rfl ?_
  have hk101 : mjIs Z.2.2.1 251 2 = true := by
    by_cases q9 : mjIs Z.2.2.1 251 2 = true
    · exact q9
    · rw [if_neg q9] at h; cases h
  rw [if_pos hk101] at h
  cases hq102 : f7_hasTeam Z.2.2.1 p0 Z with
  | none => rw [hq102] at h; cases h
  | some v103 =>
    rw [hq102, mjBp_some] at h
    refine pG_callV (k2 := 7) (As := [.ref Z.2.2.1, .int p0]) (rest := []) rfl rfl rfl rfl rfl (mjRcv_is hk101 (by decide)) (by decide) (f7_hasTeam_ok hq102) ?_
    rintro r9 M9 ⟨rfl, rfl⟩
    show pG 183 8 [some (.ref 0), some (.int p0)] [.int v103] (mjTo Z) _
    by_cases hc105 : mjCmp .ne v103 0 = true
    · rw [if_pos hc105] at h
      refine pG_ift (t := 13) rfl rfl hc105 ?_
      refine pG_many 1 (pc1 := 14) (L1 := [some (.ref 0), some (.int p0)]) (st1 := [.ref 0]) (M1 := mjTo Z) rfl ?_
      refine pG_getR (ci := 11) (f := 2) (b := Z.2.2.1) rfl rfl rfl (by rfl) rfl ?_
      refine pG_many 1 (pc1 := 18) (L1 := [some (.ref 0), some (.int p0)]) (st1 := [.int p0, .ref Z.2.2.1]) (M1 := mjTo Z) rfl ?_
      cases hq106 : f23_isWhole Z.2.2.1 p0 Z with
      | none => rw [hq106] at h; cases h
      | some v107 =>
        rw [hq106, mjBp_some] at h
        refine pG_callV (k2 := 23) (As := [.ref Z.2.2.1, .int p0]) (rest := []) rfl rfl rfl rfl rfl (mjRcv_is hk101 (by decide)) (by decide) (f23_isWhole_ok hq106) ?_
        rintro r9 M9 ⟨rfl, rfl⟩
        show pG 183 21 [some (.ref 0), some (.int p0)] [.int v107] (mjTo Z) _
        by_cases hc109 : mjCmp .eq v107 0 = true
        · rw [if_pos hc109] at h
          refine pG_ift (t := 35) rfl rfl hc109 ?_
          refine pG_many 1 (pc1 := 37) (L1 := [some (.ref 0), some (.int p0)]) (st1 := [.int ((-2))]) (M1 := mjTo Z) rfl ?_
          simp only [Option.some.injEq] at h
          subst h
          exact pG_ret (r := some (.int ((-2)))) rfl ⟨rfl, rfl⟩
        · rw [if_neg hc109] at h
          refine pG_iff (t := 35) rfl rfl hc109 ?_
          refine pG_many 1 (pc1 := 25) (L1 := [some (.ref 0), some (.int p0)]) (st1 := [.ref 0]) (M1 := mjTo Z) rfl ?_
          refine pG_getR (ci := 11) (f := 7) (b := 199) rfl rfl rfl (by rfl) rfl ?_
          refine pG_many 1 (pc1 := 29) (L1 := [some (.ref 0), some (.int p0)]) (st1 := [.int p0, .ref 199]) (M1 := mjTo Z) rfl ?_
          cases hq110 : f139_wouldOf 199 p0 Z with
          | none => rw [hq110] at h; cases h
          | some v111 =>
            rw [hq110, mjBp_some] at h
            refine pG_callV (k2 := 139) (As := [.ref 199, .int p0]) (rest := []) rfl rfl rfl rfl rfl (by rfl) (by decide) (f139_wouldOf_ok hq110) ?_
            rintro r9 M9 ⟨rfl, rfl⟩
            show pG 183 32 [some (.ref 0), some (.int p0)] [.int v111] (mjTo Z) _
            refine pG_many 1 (pc1 := 37) (L1 := [some (.ref 0), some (.int p0)]) (st1 := [.int v111]) (M1 := mjTo Z) rfl ?_
            simp only [Option.some.injEq] at h
            subst h
            exact pG_ret (r := some (.int v111)) rfl ⟨rfl, rfl⟩
    · rw [if_neg hc105] at h
      refine pG_iff (t := 13) rfl rfl hc105 ?_
      refine pG_many 1 (pc1 := 12) (L1 := [some (.ref 0), some (.int p0)]) (st1 := [.int ((-1))]) (M1 := mjTo Z) rfl ?_
      simp only [Option.some.injEq] at h
      subst h
      exact pG_ret (r := some (.int ((-1)))) rfl ⟨rfl, rfl⟩
def f184_fairRank (p0 : Int32) (Z : mjZt) : Option Int32 :=
  if mjIs Z.2.2.1 251 2 = true then
  mjBp (f7_hasTeam Z.2.2.1 p0 Z) fun v103 =>
  if mjCmp .eq v103 0 = true then
    some ((-1))
  else
    mjBp (f138_rankByWould 199 p0 Z) fun v107 =>
    some v107
  else none
theorem f184_fairRank_ok {p0 : Int32} {Z : mjZt} {v9 : Int32} (h : f184_fairRank p0 Z = some v9) : pG 184 0 (mjEnt [.ref 0, .int p0] (mjML 184)) [] (mjTo Z) (fun r M1 => r = some (.int v9) ∧ M1 = mjTo Z) := by
  unfold f184_fairRank at h
  show pG 184 0 [some (.ref 0), some (.int p0)] [] (mjTo Z) _
  refine pG_many 1 (pc1 := 1) (L1 := [some (.ref 0), some (.int p0)]) (st1 := [.ref 0]) (M1 := mjTo Z) rfl ?_
  refine pG_getR (ci := 11) (f := 2) (b := Z.2.2.1) rfl rfl rfl (by rfl) rfl ?_
  refine pG_many 1 (pc1 := 5) (L1 := [some (.ref 0), some (.int p0)]) (st1 := [.int p0, .ref Z.2.2.1]) (M1 := mjTo Z) rfl ?_
  have hk101 : mjIs Z.2.2.1 251 2 = true := by
    by_cases q9 : mjIs Z.2.2.1 251 2 = true
    · exact q9
    · rw [if_neg q9] at h; cases h
  rw [if_pos hk101] at h
  cases hq102 : f7_hasTeam Z.2.2.1 p0 Z with
  | none => rw [hq102] at h; cases h
  | some v103 =>
    rw [hq102, mjBp_some] at h
    refine pG_callV (k2 := 7) (As := [.ref Z.2.2.1, .int p0]) (rest := []) rfl rfl rfl rfl rfl (mjRcv_is hk101 (by decide)) (by decide) (f7_hasTeam_ok hq102) ?_
    rintro r9 M9 ⟨rfl, rfl⟩
    show pG 184 8 [some (.ref 0), some (.int p0)] [.int v103] (mjTo Z) _
    by_cases hc105 : mjCmp .eq v103 0 = true
    · rw [if_pos hc105] at h
      refine pG_ift (t := 22) rfl rfl hc105 ?_
      refine pG_many 1 (pc1 := 23) (L1 := [some (.ref 0), some (.int p0)]) (st1 := [.int ((-1))]) (M1 := mjTo Z) rfl ?_
      simp only [Option.some.injEq] at h
      subst h
      exact pG_ret (r := some (.int ((-1)))) rfl ⟨rfl, rfl⟩
    · rw [if_neg hc105] at h
      refine pG_iff (t := 22) rfl rfl hc105 ?_
      refine pG_many 1 (pc1 := 12) (L1 := [some (.ref 0), some (.int p0)]) (st1 := [.ref 0]) (M1 := mjTo Z) rfl ?_
      refine pG_getR (ci := 11) (f := 7) (b := 199) rfl rfl rfl (by rfl) rfl ?_
      refine pG_many 1 (pc1 := 16) (L1 := [some (.ref 0), some (.int p0)]) (st1 := [.int p0, .ref 199]) (M1 := mjTo Z) rfl ?_
      cases hq106 : f138_rankByWould 199 p0 Z with
      | none => rw [hq106] at h; cases h
      | some v107 =>
        rw [hq106, mjBp_some] at h
        refine pG_callV (k2 := 138) (As := [.ref 199, .int p0]) (rest := []) rfl rfl rfl rfl rfl (by rfl) (by decide) (f138_rankByWould_ok hq106) ?_
        rintro r9 M9 ⟨rfl, rfl⟩
        show pG 184 19 [some (.ref 0), some (.int p0)] [.int v107] (mjTo Z) _
        refine pG_many 1 (pc1 := 23) (L1 := [some (.ref 0), some (.int p0)]) (st1 := [.int v107]) (M1 := mjTo Z) rfl ?_
        simp only [Option.some.injEq] at h
        subst h
        exact pG_ret (r := some (.int v107)) rfl ⟨rfl, rfl⟩
def f185_margin (p0 : Int32) (Z : mjZt) : Option Int32 :=
  if mjCmp .ge p0 1 = true then
    mjBp (f140_kthOfResult 199 Z.2.2.1 p0 Z) fun v103 =>
    mjBp (f140_kthOfResult 199 Z.2.2.1 (p0 - 1) Z) fun v106 =>
    if mjCmp .eq v103 ((-1)) = true then
      some ((-1))
    else
      if mjCmp .ne v106 ((-1)) = true then
        if mjIs Z.2.2.1 251 2 = true then
        mjBp (f8_runner Z.2.2.1 v103 Z) fun v112 =>
        if mjIs v112 251 7 = true then
        mjBp (f99_time v112 Z) fun v116 =>
        mjBp (f8_runner Z.2.2.1 v106 Z) fun v119 =>
        if mjIs v119 251 7 = true then
        mjBp (f99_time v119 Z) fun v123 =>
        some (v116 - v123)
        else none
        else none
        else none
      else
        some ((-1))
  else
    some ((-1))
theorem f185_margin_ok {p0 : Int32} {Z : mjZt} {v9 : Int32} (h : f185_margin p0 Z = some v9) : pG 185 0 (mjEnt [.ref 0, .int p0] (mjML 185)) [] (mjTo Z) (fun r M1 => r = some (.int v9) ∧ M1 = mjTo Z) := by
  unfold f185_margin at h
  show pG 185 0 [some (.ref 0), some (.int p0), none, none] [] (mjTo Z) _
  refine pG_many 2 (pc1 := 2) (L1 := [some (.ref 0), some (.int p0), none, none]) (st1 := [.int 1, .int p0]) (M1 := mjTo Z) rfl ?_
  by_cases hc101 : mjCmp .ge p0 1 = true
  · rw [if_pos hc101] at h
    refine pG_cmt (t := 7) rfl rfl hc101 ?_
    refine pG_many 1 (pc1 := 8) (L1 := [some (.ref 0), some (.int p0), none, none]) (st1 := [.ref 0]) (M1 := mjTo Z) rfl ?_
    refine pG_getR (ci := 11) (f := 7) (b := 199) rfl rfl rfl (by rfl) rfl ?_
    refine pG_many 1 (pc1 := 12) (L1 := [some (.ref 0), some (.int p0), none, none]) (st1 := [.ref 0, .ref 199]) (M1 := mjTo Z) rfl ?_
    refine pG_getR (ci := 11) (f := 2) (b := Z.2.2.1) rfl rfl rfl (by rfl) rfl ?_
    refine pG_many 1 (pc1 := 16) (L1 := [some (.ref 0), some (.int p0), none, none]) (st1 := [.int p0, .ref Z.2.2.1, .ref 199]) (M1 := mjTo Z) rfl ?_
    cases hq102 : f140_kthOfResult 199 Z.2.2.1 p0 Z with
    | none => rw [hq102] at h; cases h
    | some v103 =>
      rw [hq102, mjBp_some] at h
      refine pG_callV (k2 := 140) (As := [.ref 199, .ref Z.2.2.1, .int p0]) (rest := []) rfl rfl rfl rfl rfl (by rfl) (by decide) (f140_kthOfResult_ok hq102) ?_
      rintro r9 M9 ⟨rfl, rfl⟩
      show pG 185 19 [some (.ref 0), some (.int p0), none, none] [.int v103] (mjTo Z) _
      refine pG_many 2 (pc1 := 21) (L1 := [some (.ref 0), some (.int p0), some (.int v103), none]) (st1 := [.ref 0]) (M1 := mjTo Z) rfl ?_
      refine pG_getR (ci := 11) (f := 7) (b := 199) rfl rfl rfl (by rfl) rfl ?_
      refine pG_many 1 (pc1 := 25) (L1 := [some (.ref 0), some (.int p0), some (.int v103), none]) (st1 := [.ref 0, .ref 199]) (M1 := mjTo Z) rfl ?_
      refine pG_getR (ci := 11) (f := 2) (b := Z.2.2.1) rfl rfl rfl (by rfl) rfl ?_
      refine pG_many 3 (pc1 := 31) (L1 := [some (.ref 0), some (.int p0), some (.int v103), none]) (st1 := [.int (p0 - 1), .ref Z.2.2.1, .ref 199]) (M1 := mjTo Z) rfl ?_
      cases hq105 : f140_kthOfResult 199 Z.2.2.1 (p0 - 1) Z with
      | none => rw [hq105] at h; cases h
      | some v106 =>
        rw [hq105, mjBp_some] at h
        refine pG_callV (k2 := 140) (As := [.ref 199, .ref Z.2.2.1, .int (p0 - 1)]) (rest := []) rfl rfl rfl rfl rfl (by rfl) (by decide) (f140_kthOfResult_ok hq105) ?_
        rintro r9 M9 ⟨rfl, rfl⟩
        show pG 185 34 [some (.ref 0), some (.int p0), some (.int v103), none] [.int v106] (mjTo Z) _
        refine pG_many 3 (pc1 := 37) (L1 := [some (.ref 0), some (.int p0), some (.int v103), some (.int v106)]) (st1 := [.int ((-1)), .int v103]) (M1 := mjTo Z) rfl ?_
        by_cases hc108 : mjCmp .eq v103 ((-1)) = true
        · rw [if_pos hc108] at h
          refine pG_cmt (t := 45) rfl rfl hc108 ?_
          refine pG_many 1 (pc1 := 46) (L1 := [some (.ref 0), some (.int p0), some (.int v103), some (.int v106)]) (st1 := [.int ((-1))]) (M1 := mjTo Z) rfl ?_
          simp only [Option.some.injEq] at h
          subst h
          exact pG_ret (r := some (.int ((-1)))) rfl ⟨rfl, rfl⟩
        · rw [if_neg hc108] at h
          refine pG_cmf (t := 45) rfl rfl hc108 ?_
          refine pG_many 2 (pc1 := 42) (L1 := [some (.ref 0), some (.int p0), some (.int v103), some (.int v106)]) (st1 := [.int ((-1)), .int v106]) (M1 := mjTo Z) rfl ?_
          by_cases hc109 : mjCmp .ne v106 ((-1)) = true
          · rw [if_pos hc109] at h
            refine pG_cmt (t := 47) rfl rfl hc109 ?_
            refine pG_many 1 (pc1 := 48) (L1 := [some (.ref 0), some (.int p0), some (.int v103), some (.int v106)]) (st1 := [.ref 0]) (M1 := mjTo Z) rfl ?_
            refine pG_getR (ci := 11) (f := 2) (b := Z.2.2.1) rfl rfl rfl (by rfl) rfl ?_
            refine pG_many 1 (pc1 := 52) (L1 := [some (.ref 0), some (.int p0), some (.int v103), some (.int v106)]) (st1 := [.int v103, .ref Z.2.2.1]) (M1 := mjTo Z) rfl ?_
            have hk110 : mjIs Z.2.2.1 251 2 = true := by
              by_cases q9 : mjIs Z.2.2.1 251 2 = true
              · exact q9
              · rw [if_neg q9] at h; cases h
            rw [if_pos hk110] at h
            cases hq111 : f8_runner Z.2.2.1 v103 Z with
            | none => rw [hq111] at h; cases h
            | some v112 =>
              rw [hq111, mjBp_some] at h
              refine pG_callV (k2 := 8) (As := [.ref Z.2.2.1, .int v103]) (rest := []) rfl rfl rfl rfl rfl (mjRcv_is hk110 (by decide)) (by decide) (f8_runner_ok hq111) ?_
              rintro r9 M9 ⟨rfl, rfl⟩
              show pG 185 55 [some (.ref 0), some (.int p0), some (.int v103), some (.int v106)] [.ref v112] (mjTo Z) _
              have hk114 : mjIs v112 251 7 = true := by
                by_cases q9 : mjIs v112 251 7 = true
                · exact q9
                · rw [if_neg q9] at h; cases h
              rw [if_pos hk114] at h
              cases hq115 : f99_time v112 Z with
              | none => rw [hq115] at h; cases h
              | some v116 =>
                rw [hq115, mjBp_some] at h
                refine pG_callV (k2 := 99) (As := [.ref v112]) (rest := []) rfl rfl rfl rfl rfl (mjRcv_is hk114 (by decide)) (by decide) (f99_time_ok hq115) ?_
                rintro r9 M9 ⟨rfl, rfl⟩
                show pG 185 58 [some (.ref 0), some (.int p0), some (.int v103), some (.int v106)] [.int v116] (mjTo Z) _
                refine pG_many 1 (pc1 := 59) (L1 := [some (.ref 0), some (.int p0), some (.int v103), some (.int v106)]) (st1 := [.ref 0, .int v116]) (M1 := mjTo Z) rfl ?_
                refine pG_getR (ci := 11) (f := 2) (b := Z.2.2.1) rfl rfl rfl (by rfl) rfl ?_
                refine pG_many 1 (pc1 := 63) (L1 := [some (.ref 0), some (.int p0), some (.int v103), some (.int v106)]) (st1 := [.int v106, .ref Z.2.2.1, .int v116]) (M1 := mjTo Z) rfl ?_
                cases hq118 : f8_runner Z.2.2.1 v106 Z with
                | none => rw [hq118] at h; cases h
                | some v119 =>
                  rw [hq118, mjBp_some] at h
                  refine pG_callV (k2 := 8) (As := [.ref Z.2.2.1, .int v106]) (rest := [.int v116]) rfl rfl rfl rfl rfl (mjRcv_is hk110 (by decide)) (by decide) (f8_runner_ok hq118) ?_
                  rintro r9 M9 ⟨rfl, rfl⟩
                  show pG 185 66 [some (.ref 0), some (.int p0), some (.int v103), some (.int v106)] [.ref v119, .int v116] (mjTo Z) _
                  have hk121 : mjIs v119 251 7 = true := by
                    by_cases q9 : mjIs v119 251 7 = true
                    · exact q9
                    · rw [if_neg q9] at h; cases h
                  rw [if_pos hk121] at h
                  cases hq122 : f99_time v119 Z with
                  | none => rw [hq122] at h; cases h
                  | some v123 =>
                    rw [hq122, mjBp_some] at h
                    refine pG_callV (k2 := 99) (As := [.ref v119]) (rest := [.int v116]) rfl rfl rfl rfl rfl (mjRcv_is hk121 (by decide)) (by decide) (f99_time_ok hq122) ?_
                    rintro r9 M9 ⟨rfl, rfl⟩
                    show pG 185 69 [some (.ref 0), some (.int p0), some (.int v103), some (.int v106)] [.int v123, .int v116] (mjTo Z) _
                    refine pG_many 1 (pc1 := 70) (L1 := [some (.ref 0), some (.int p0), some (.int v103), some (.int v106)]) (st1 := [.int (v116 - v123)]) (M1 := mjTo Z) rfl ?_
                    simp only [Option.some.injEq] at h
                    subst h
                    exact pG_ret (r := some (.int (v116 - v123))) rfl ⟨rfl, rfl⟩
          · rw [if_neg hc109] at h
            refine pG_cmf (t := 47) rfl rfl hc109 ?_
            refine pG_many 1 (pc1 := 46) (L1 := [some (.ref 0), some (.int p0), some (.int v103), some (.int v106)]) (st1 := [.int ((-1))]) (M1 := mjTo Z) rfl ?_
            simp only [Option.some.injEq] at h
            subst h
            exact pG_ret (r := some (.int ((-1)))) rfl ⟨rfl, rfl⟩
  · rw [if_neg hc101] at h
    refine pG_cmf (t := 7) rfl rfl hc101 ?_
    refine pG_many 1 (pc1 := 6) (L1 := [some (.ref 0), some (.int p0), none, none]) (st1 := [.int ((-1))]) (M1 := mjTo Z) rfl ?_
    simp only [Option.some.injEq] at h
    subst h
    exact pG_ret (r := some (.int ((-1)))) rfl ⟨rfl, rfl⟩
def f186_impeders (p0 : Int32) (Z : mjZt) : Option Int32 :=
  if mjIs Z.2.2.1 251 2 = true then
  mjBp (f7_hasTeam Z.2.2.1 p0 Z) fun v103 =>
  if mjCmp .eq v103 0 = true then
    some ((-1))
  else
    mjBp (f146_impedersOf 199 Z.2.2.1 p0 Z) fun v107 =>
    some v107
  else none
theorem f186_impeders_ok {p0 : Int32} {Z : mjZt} {v9 : Int32} (h : f186_impeders p0 Z = some v9) : pG 186 0 (mjEnt [.ref 0, .int p0] (mjML 186)) [] (mjTo Z) (fun r M1 => r = some (.int v9) ∧ M1 = mjTo Z) := by
  unfold f186_impeders at h
  show pG 186 0 [some (.ref 0), some (.int p0)] [] (mjTo Z) _
  refine pG_many 1 (pc1 := 1) (L1 := [some (.ref 0), some (.int p0)]) (st1 := [.ref 0]) (M1 := mjTo Z) rfl ?_
  refine pG_getR (ci := 11) (f := 2) (b := Z.2.2.1) rfl rfl rfl (by rfl) rfl ?_
  refine pG_many 1 (pc1 := 5) (L1 := [some (.ref 0), some (.int p0)]) (st1 := [.int p0, .ref Z.2.2.1]) (M1 := mjTo Z) rfl ?_
  have hk101 : mjIs Z.2.2.1 251 2 = true := by
    by_cases q9 : mjIs Z.2.2.1 251 2 = true
    · exact q9
    · rw [if_neg q9] at h; cases h
  rw [if_pos hk101] at h
  cases hq102 : f7_hasTeam Z.2.2.1 p0 Z with
  | none => rw [hq102] at h; cases h
  | some v103 =>
    rw [hq102, mjBp_some] at h
    refine pG_callV (k2 := 7) (As := [.ref Z.2.2.1, .int p0]) (rest := []) rfl rfl rfl rfl rfl (mjRcv_is hk101 (by decide)) (by decide) (f7_hasTeam_ok hq102) ?_
    rintro r9 M9 ⟨rfl, rfl⟩
    show pG 186 8 [some (.ref 0), some (.int p0)] [.int v103] (mjTo Z) _
    by_cases hc105 : mjCmp .eq v103 0 = true
    · rw [if_pos hc105] at h
      refine pG_ift (t := 26) rfl rfl hc105 ?_
      refine pG_many 1 (pc1 := 27) (L1 := [some (.ref 0), some (.int p0)]) (st1 := [.int ((-1))]) (M1 := mjTo Z) rfl ?_
      simp only [Option.some.injEq] at h
      subst h
      exact pG_ret (r := some (.int ((-1)))) rfl ⟨rfl, rfl⟩
    · rw [if_neg hc105] at h
      refine pG_iff (t := 26) rfl rfl hc105 ?_
      refine pG_many 1 (pc1 := 12) (L1 := [some (.ref 0), some (.int p0)]) (st1 := [.ref 0]) (M1 := mjTo Z) rfl ?_
      refine pG_getR (ci := 11) (f := 7) (b := 199) rfl rfl rfl (by rfl) rfl ?_
      refine pG_many 1 (pc1 := 16) (L1 := [some (.ref 0), some (.int p0)]) (st1 := [.ref 0, .ref 199]) (M1 := mjTo Z) rfl ?_
      refine pG_getR (ci := 11) (f := 2) (b := Z.2.2.1) rfl rfl rfl (by rfl) rfl ?_
      refine pG_many 1 (pc1 := 20) (L1 := [some (.ref 0), some (.int p0)]) (st1 := [.int p0, .ref Z.2.2.1, .ref 199]) (M1 := mjTo Z) rfl ?_
      cases hq106 : f146_impedersOf 199 Z.2.2.1 p0 Z with
      | none => rw [hq106] at h; cases h
      | some v107 =>
        rw [hq106, mjBp_some] at h
        refine pG_callV (k2 := 146) (As := [.ref 199, .ref Z.2.2.1, .int p0]) (rest := []) rfl rfl rfl rfl rfl (by rfl) (by decide) (f146_impedersOf_ok hq106) ?_
        rintro r9 M9 ⟨rfl, rfl⟩
        show pG 186 23 [some (.ref 0), some (.int p0)] [.int v107] (mjTo Z) _
        refine pG_many 1 (pc1 := 27) (L1 := [some (.ref 0), some (.int p0)]) (st1 := [.int v107]) (M1 := mjTo Z) rfl ?_
        simp only [Option.some.injEq] at h
        subst h
        exact pG_ret (r := some (.int v107)) rfl ⟨rfl, rfl⟩
def f187_again  (Z : mjZt) : Option Int32 :=
  mjBp (f141_isRunAgain 199 Z) fun v102 =>
  if mjCmp .eq v102 0 = true then
    some 0
  else
    some 1
theorem f187_again_ok  {Z : mjZt} {v9 : Int32} (h : f187_again  Z = some v9) : pG 187 0 (mjEnt [.ref 0] (mjML 187)) [] (mjTo Z) (fun r M1 => r = some (.int v9) ∧ M1 = mjTo Z) := by
  unfold f187_again at h
  show pG 187 0 [some (.ref 0)] [] (mjTo Z) _
  refine pG_many 1 (pc1 := 1) (L1 := [some (.ref 0)]) (st1 := [.ref 0]) (M1 := mjTo Z) rfl ?_
  refine pG_getR (ci := 11) (f := 7) (b := 199) rfl rfl rfl (by rfl) rfl ?_
  cases hq101 : f141_isRunAgain 199 Z with
  | none => rw [hq101] at h; cases h
  | some v102 =>
    rw [hq101, mjBp_some] at h
    refine pG_callV (k2 := 141) (As := [.ref 199]) (rest := []) rfl rfl rfl rfl rfl (by rfl) (by decide) (f141_isRunAgain_ok hq101) ?_
    rintro r9 M9 ⟨rfl, rfl⟩
    show pG 187 7 [some (.ref 0)] [.int v102] (mjTo Z) _
    by_cases hc104 : mjCmp .eq v102 0 = true
    · rw [if_pos hc104] at h
      refine pG_ift (t := 14) rfl rfl hc104 ?_
      refine pG_many 1 (pc1 := 15) (L1 := [some (.ref 0)]) (st1 := [.int 0]) (M1 := mjTo Z) rfl ?_
      simp only [Option.some.injEq] at h
      subst h
      exact pG_ret (r := some (.int 0)) rfl ⟨rfl, rfl⟩
    · rw [if_neg hc104] at h
      refine pG_iff (t := 14) rfl rfl hc104 ?_
      refine pG_many 2 (pc1 := 15) (L1 := [some (.ref 0)]) (st1 := [.int 1]) (M1 := mjTo Z) rfl ?_
      simp only [Option.some.injEq] at h
      subst h
      exact pG_ret (r := some (.int 1)) rfl ⟨rfl, rfl⟩
def f188_winner (p0 : Int32) (Z : mjZt) : Option (Int32 × mjZt) :=
  if mjIs Z.2.2.1 251 2 = true then
  mjBp (f17_hasAct Z.2.2.1 p0 Z) fun v103 =>
  if mjCmp .ne v103 0 = true then
    mjBd (f136_decide 204 Z.2.2.1 ((Z.2.1 Z.2.2.1 11) ^^^ (1 <<< (Int32.toInt64 p0 &&& 63))) Z) fun _ Z108 =>
    mjBp (f140_kthOfResult 204 Z108.2.2.1 0 Z108) fun v110 =>
    if mjCmp .ne v110 ((-1)) = true then
      some (v110, Z108)
    else
      some ((-2), Z108)
  else
    some ((-1), Z)
  else none
theorem f188_winner_ok {p0 : Int32} {Z : mjZt} {v9 : Int32} {Z9 : mjZt} (h : f188_winner p0 Z = some (v9, Z9)) : pG 188 0 (mjEnt [.ref 0, .int p0] (mjML 188)) [] (mjTo Z) (fun r M1 => r = some (.int v9) ∧ M1 = mjTo Z9) := by
  unfold f188_winner at h
  show pG 188 0 [some (.ref 0), some (.int p0), none] [] (mjTo Z) _
  refine pG_many 1 (pc1 := 1) (L1 := [some (.ref 0), some (.int p0), none]) (st1 := [.ref 0]) (M1 := mjTo Z) rfl ?_
  refine pG_getR (ci := 11) (f := 2) (b := Z.2.2.1) rfl rfl rfl (by rfl) rfl ?_
  refine pG_many 1 (pc1 := 5) (L1 := [some (.ref 0), some (.int p0), none]) (st1 := [.int p0, .ref Z.2.2.1]) (M1 := mjTo Z) rfl ?_
  have hk101 : mjIs Z.2.2.1 251 2 = true := by
    by_cases q9 : mjIs Z.2.2.1 251 2 = true
    · exact q9
    · rw [if_neg q9] at h; cases h
  rw [if_pos hk101] at h
  cases hq102 : f17_hasAct Z.2.2.1 p0 Z with
  | none => rw [hq102] at h; cases h
  | some v103 =>
    rw [hq102, mjBp_some] at h
    refine pG_callV (k2 := 17) (As := [.ref Z.2.2.1, .int p0]) (rest := []) rfl rfl rfl rfl rfl (mjRcv_is hk101 (by decide)) (by decide) (f17_hasAct_ok hq102) ?_
    rintro r9 M9 ⟨rfl, rfl⟩
    show pG 188 8 [some (.ref 0), some (.int p0), none] [.int v103] (mjTo Z) _
    by_cases hc105 : mjCmp .ne v103 0 = true
    · rw [if_pos hc105] at h
      refine pG_ift (t := 13) rfl rfl hc105 ?_
      refine pG_many 1 (pc1 := 14) (L1 := [some (.ref 0), some (.int p0), none]) (st1 := [.ref 0]) (M1 := mjTo Z) rfl ?_
      refine pG_getR (ci := 11) (f := 8) (b := 204) rfl rfl rfl (by rfl) rfl ?_
      refine pG_many 1 (pc1 := 18) (L1 := [some (.ref 0), some (.int p0), none]) (st1 := [.ref 0, .ref 204]) (M1 := mjTo Z) rfl ?_
      refine pG_getR (ci := 11) (f := 2) (b := Z.2.2.1) rfl rfl rfl (by rfl) rfl ?_
      refine pG_many 1 (pc1 := 22) (L1 := [some (.ref 0), some (.int p0), none]) (st1 := [.ref 0, .ref Z.2.2.1, .ref 204]) (M1 := mjTo Z) rfl ?_
      refine pG_getR (ci := 11) (f := 6) (b := 190) rfl rfl rfl (by rfl) rfl ?_
      refine pG_many 1 (pc1 := 26) (L1 := [some (.ref 0), some (.int p0), none]) (st1 := [.ref 0, .ref 190, .ref Z.2.2.1, .ref 204]) (M1 := mjTo Z) rfl ?_
      refine pG_getR (ci := 11) (f := 2) (b := Z.2.2.1) rfl rfl rfl (by rfl) rfl ?_
      refine pG_getL (ci := 2) (f := 11) rfl rfl rfl hk101 ?_
      refine pG_many 4 (pc1 := 36) (L1 := [some (.ref 0), some (.int p0), none]) (st1 := [.long ((Z.2.1 Z.2.2.1 11) ^^^ (1 <<< (Int32.toInt64 p0 &&& 63))), .ref 190, .ref Z.2.2.1, .ref 204]) (M1 := mjTo Z) rfl ?_
      cases hq106 : f136_decide 204 Z.2.2.1 ((Z.2.1 Z.2.2.1 11) ^^^ (1 <<< (Int32.toInt64 p0 &&& 63))) Z with
      | none => rw [hq106] at h; cases h
      | some w =>
        obtain ⟨v107, Z108⟩ := w
        rw [hq106, mjBd_some] at h
        refine pG_callV (k2 := 136) (As := [.ref 204, .ref Z.2.2.1, .ref 190, .long ((Z.2.1 Z.2.2.1 11) ^^^ (1 <<< (Int32.toInt64 p0 &&& 63)))]) (rest := []) rfl rfl rfl rfl rfl (by rfl) (by decide) (f136_decide_ok hq106) ?_
        rintro r9 M9 ⟨rfl, rfl⟩
        show pG 188 39 [some (.ref 0), some (.int p0), none] [] (mjTo Z108) _
        refine pG_many 1 (pc1 := 40) (L1 := [some (.ref 0), some (.int p0), none]) (st1 := [.ref 0]) (M1 := mjTo Z108) rfl ?_
        refine pG_getR (ci := 11) (f := 8) (b := 204) rfl rfl rfl (by rfl) rfl ?_
        refine pG_many 1 (pc1 := 44) (L1 := [some (.ref 0), some (.int p0), none]) (st1 := [.ref 0, .ref 204]) (M1 := mjTo Z108) rfl ?_
        refine pG_getR (ci := 11) (f := 2) (b := Z108.2.2.1) rfl rfl rfl (by rfl) rfl ?_
        refine pG_many 1 (pc1 := 48) (L1 := [some (.ref 0), some (.int p0), none]) (st1 := [.int 0, .ref Z108.2.2.1, .ref 204]) (M1 := mjTo Z108) rfl ?_
        cases hq109 : f140_kthOfResult 204 Z108.2.2.1 0 Z108 with
        | none => rw [hq109] at h; cases h
        | some v110 =>
          rw [hq109, mjBp_some] at h
          refine pG_callV (k2 := 140) (As := [.ref 204, .ref Z108.2.2.1, .int 0]) (rest := []) rfl rfl rfl rfl rfl (by rfl) (by decide) (f140_kthOfResult_ok hq109) ?_
          rintro r9 M9 ⟨rfl, rfl⟩
          show pG 188 51 [some (.ref 0), some (.int p0), none] [.int v110] (mjTo Z108) _
          refine pG_many 3 (pc1 := 54) (L1 := [some (.ref 0), some (.int p0), some (.int v110)]) (st1 := [.int ((-1)), .int v110]) (M1 := mjTo Z108) rfl ?_
          by_cases hc112 : mjCmp .ne v110 ((-1)) = true
          · rw [if_pos hc112] at h
            refine pG_cmt (t := 62) rfl rfl hc112 ?_
            refine pG_many 1 (pc1 := 63) (L1 := [some (.ref 0), some (.int p0), some (.int v110)]) (st1 := [.int v110]) (M1 := mjTo Z108) rfl ?_
            simp only [Option.some.injEq, Prod.mk.injEq] at h
            obtain ⟨rfl, rfl⟩ := h
            exact pG_ret (r := some (.int v110)) rfl ⟨rfl, rfl⟩
          · rw [if_neg hc112] at h
            refine pG_cmf (t := 62) rfl rfl hc112 ?_
            refine pG_many 2 (pc1 := 63) (L1 := [some (.ref 0), some (.int p0), some (.int v110)]) (st1 := [.int ((-2))]) (M1 := mjTo Z108) rfl ?_
            simp only [Option.some.injEq, Prod.mk.injEq] at h
            obtain ⟨rfl, rfl⟩ := h
            exact pG_ret (r := some (.int ((-2)))) rfl ⟨rfl, rfl⟩
    · rw [if_neg hc105] at h
      refine pG_iff (t := 13) rfl rfl hc105 ?_
      refine pG_many 1 (pc1 := 12) (L1 := [some (.ref 0), some (.int p0), none]) (st1 := [.int ((-1))]) (M1 := mjTo Z) rfl ?_
      simp only [Option.some.injEq, Prod.mk.injEq] at h
      obtain ⟨rfl, rfl⟩ := h
      exact pG_ret (r := some (.int ((-1)))) rfl ⟨rfl, rfl⟩
def f189_stays (p0 : Int32) (p1 : Int32) (Z : mjZt) : Option (Int32 × mjZt) :=
  if mjIs Z.2.2.1 251 2 = true then
  mjBp (f7_hasTeam Z.2.2.1 p0 Z) fun v103 =>
  if mjCmp .eq v103 0 = true then
    some ((-1), Z)
  else
    if mjCmp .lt p1 0 = true then
      some ((-1), Z)
    else
      if mjCmp .le p1 1 = true then
        mjBd (f96_fewestWaived Z.2.2.1 p0 Z) fun v109 Z110 =>
        if mjCmp .eq v109 ((-2)) = true then
          some (v109, Z110)
        else
          if mjCmp .ne p1 1 = true then
            mjBp (f323_bitCount v109 Z110) fun v114 =>
            some (v114, Z110)
          else
            some (v109, Z110)
      else
        some ((-1), Z)
  else none
theorem f189_stays_ok {p0 : Int32} {p1 : Int32} {Z : mjZt} {v9 : Int32} {Z9 : mjZt} (h : f189_stays p0 p1 Z = some (v9, Z9)) : pG 189 0 (mjEnt [.ref 0, .int p0, .int p1] (mjML 189)) [] (mjTo Z) (fun r M1 => r = some (.int v9) ∧ M1 = mjTo Z9) := by
  unfold f189_stays at h
  show pG 189 0 [some (.ref 0), some (.int p0), some (.int p1), none] [] (mjTo Z) _
  refine pG_many 1 (pc1 := 1) (L1 := [some (.ref 0), some (.int p0), some (.int p1), none]) (st1 := [.ref 0]) (M1 := mjTo Z) rfl ?_
  refine pG_getR (ci := 11) (f := 2) (b := Z.2.2.1) rfl rfl rfl (by rfl) rfl ?_
  refine pG_many 1 (pc1 := 5) (L1 := [some (.ref 0), some (.int p0), some (.int p1), none]) (st1 := [.int p0, .ref Z.2.2.1]) (M1 := mjTo Z) rfl ?_
  have hk101 : mjIs Z.2.2.1 251 2 = true := by
    by_cases q9 : mjIs Z.2.2.1 251 2 = true
    · exact q9
    · rw [if_neg q9] at h; cases h
  rw [if_pos hk101] at h
  cases hq102 : f7_hasTeam Z.2.2.1 p0 Z with
  | none => rw [hq102] at h; cases h
  | some v103 =>
    rw [hq102, mjBp_some] at h
    refine pG_callV (k2 := 7) (As := [.ref Z.2.2.1, .int p0]) (rest := []) rfl rfl rfl rfl rfl (mjRcv_is hk101 (by decide)) (by decide) (f7_hasTeam_ok hq102) ?_
    rintro r9 M9 ⟨rfl, rfl⟩
    show pG 189 8 [some (.ref 0), some (.int p0), some (.int p1), none] [.int v103] (mjTo Z) _
    by_cases hc105 : mjCmp .eq v103 0 = true
    · rw [if_pos hc105] at h
      refine pG_ift (t := 20) rfl rfl hc105 ?_
      refine pG_many 1 (pc1 := 21) (L1 := [some (.ref 0), some (.int p0), some (.int p1), none]) (st1 := [.int ((-1))]) (M1 := mjTo Z) rfl ?_
      simp only [Option.some.injEq, Prod.mk.injEq] at h
      obtain ⟨rfl, rfl⟩ := h
      exact pG_ret (r := some (.int ((-1)))) rfl ⟨rfl, rfl⟩
    · rw [if_neg hc105] at h
      refine pG_iff (t := 20) rfl rfl hc105 ?_
      refine pG_many 1 (pc1 := 12) (L1 := [some (.ref 0), some (.int p0), some (.int p1), none]) (st1 := [.int p1]) (M1 := mjTo Z) rfl ?_
      by_cases hc106 : mjCmp .lt p1 0 = true
      · rw [if_pos hc106] at h
        refine pG_ift (t := 20) rfl rfl hc106 ?_
        refine pG_many 1 (pc1 := 21) (L1 := [some (.ref 0), some (.int p0), some (.int p1), none]) (st1 := [.int ((-1))]) (M1 := mjTo Z) rfl ?_
        simp only [Option.some.injEq, Prod.mk.injEq] at h
        obtain ⟨rfl, rfl⟩ := h
        exact pG_ret (r := some (.int ((-1)))) rfl ⟨rfl, rfl⟩
      · rw [if_neg hc106] at h
        refine pG_iff (t := 20) rfl rfl hc106 ?_
        refine pG_many 2 (pc1 := 17) (L1 := [some (.ref 0), some (.int p0), some (.int p1), none]) (st1 := [.int 1, .int p1]) (M1 := mjTo Z) rfl ?_
        by_cases hc107 : mjCmp .le p1 1 = true
        · rw [if_pos hc107] at h
          refine pG_cmt (t := 22) rfl rfl hc107 ?_
          refine pG_many 1 (pc1 := 23) (L1 := [some (.ref 0), some (.int p0), some (.int p1), none]) (st1 := [.ref 0]) (M1 := mjTo Z) rfl ?_
          refine pG_getR (ci := 11) (f := 6) (b := 190) rfl rfl rfl (by rfl) rfl ?_
          refine pG_many 1 (pc1 := 27) (L1 := [some (.ref 0), some (.int p0), some (.int p1), none]) (st1 := [.ref 0, .ref 190]) (M1 := mjTo Z) rfl ?_
          refine pG_getR (ci := 11) (f := 2) (b := Z.2.2.1) rfl rfl rfl (by rfl) rfl ?_
          refine pG_many 1 (pc1 := 31) (L1 := [some (.ref 0), some (.int p0), some (.int p1), none]) (st1 := [.int p0, .ref Z.2.2.1, .ref 190]) (M1 := mjTo Z) rfl ?_
          cases hq108 : f96_fewestWaived Z.2.2.1 p0 Z with
          | none => rw [hq108] at h; cases h
          | some w =>
            obtain ⟨v109, Z110⟩ := w
            rw [hq108, mjBd_some] at h
            refine pG_callV (k2 := 96) (As := [.ref 190, .ref Z.2.2.1, .int p0]) (rest := []) rfl rfl rfl rfl rfl (by rfl) (by decide) (f96_fewestWaived_ok hq108) ?_
            rintro r9 M9 ⟨rfl, rfl⟩
            show pG 189 34 [some (.ref 0), some (.int p0), some (.int p1), none] [.int v109] (mjTo Z110) _
            refine pG_many 3 (pc1 := 38) (L1 := [some (.ref 0), some (.int p0), some (.int p1), some (.int v109)]) (st1 := [.int ((-2)), .int v109]) (M1 := mjTo Z110) rfl ?_
            by_cases hc111 : mjCmp .eq v109 ((-2)) = true
            · rw [if_pos hc111] at h
              refine pG_cmt (t := 46) rfl rfl hc111 ?_
              refine pG_many 1 (pc1 := 47) (L1 := [some (.ref 0), some (.int p0), some (.int p1), some (.int v109)]) (st1 := [.int v109]) (M1 := mjTo Z110) rfl ?_
              simp only [Option.some.injEq, Prod.mk.injEq] at h
              obtain ⟨rfl, rfl⟩ := h
              exact pG_ret (r := some (.int v109)) rfl ⟨rfl, rfl⟩
            · rw [if_neg hc111] at h
              refine pG_cmf (t := 46) rfl rfl hc111 ?_
              refine pG_many 2 (pc1 := 43) (L1 := [some (.ref 0), some (.int p0), some (.int p1), some (.int v109)]) (st1 := [.int 1, .int p1]) (M1 := mjTo Z110) rfl ?_
              by_cases hc112 : mjCmp .ne p1 1 = true
              · rw [if_pos hc112] at h
                refine pG_cmt (t := 48) rfl rfl hc112 ?_
                refine pG_many 1 (pc1 := 49) (L1 := [some (.ref 0), some (.int p0), some (.int p1), some (.int v109)]) (st1 := [.int v109]) (M1 := mjTo Z110) rfl ?_
                cases hq113 : f323_bitCount v109 Z110 with
                | none => rw [hq113] at h; cases h
                | some v114 =>
                  rw [hq113, mjBp_some] at h
                  refine pG_call (k2 := 323) (As := [.int v109]) (rest := []) rfl (by decide) (f323_bitCount_ok hq113) ?_
                  rintro r9 M9 ⟨rfl, rfl⟩
                  show pG 189 52 [some (.ref 0), some (.int p0), some (.int p1), some (.int v109)] [.int v114] (mjTo Z110) _
                  simp only [Option.some.injEq, Prod.mk.injEq] at h
                  obtain ⟨rfl, rfl⟩ := h
                  exact pG_ret (r := some (.int v114)) rfl ⟨rfl, rfl⟩
              · rw [if_neg hc112] at h
                refine pG_cmf (t := 48) rfl rfl hc112 ?_
                refine pG_many 1 (pc1 := 47) (L1 := [some (.ref 0), some (.int p0), some (.int p1), some (.int v109)]) (st1 := [.int v109]) (M1 := mjTo Z110) rfl ?_
                simp only [Option.some.injEq, Prod.mk.injEq] at h
                obtain ⟨rfl, rfl⟩ := h
                exact pG_ret (r := some (.int v109)) rfl ⟨rfl, rfl⟩
        · rw [if_neg hc107] at h
          refine pG_cmf (t := 22) rfl rfl hc107 ?_
          refine pG_many 1 (pc1 := 21) (L1 := [some (.ref 0), some (.int p0), some (.int p1), none]) (st1 := [.int ((-1))]) (M1 := mjTo Z) rfl ?_
          simp only [Option.some.injEq, Prod.mk.injEq] at h
          obtain ⟨rfl, rfl⟩ := h
          exact pG_ret (r := some (.int ((-1)))) rfl ⟨rfl, rfl⟩
def f190_appeal_j92 (x1 : Int32) (x2 : Int32) (x3 : Int32) (x4 : Nat) (x5 : Int32) (s1 : Int32) (Z : mjZt) : Option (Int32 × mjZt) :=
  mjBd (f4_keep s1 x1 x5 0 0 Z) fun _ Z120 =>
  if mjCmp .ne x2 0 = true then
    if mjIs x4 251 0 = true then
    mjLet (zSi Z120 x4 4 x3) fun Z123 =>
    mjBd (f151_settleAll  Z123) fun _ Z126 =>
    some (x5, Z126)
    else none
  else
    if mjIs x4 251 0 = true then
    mjLet (zSi Z120 x4 3 x3) fun Z128 =>
    mjBd (f151_settleAll  Z128) fun _ Z131 =>
    some (x5, Z131)
    else none
theorem f190_appeal_j92_ok (x1 : Int32) (x2 : Int32) (x3 : Int32) (x4 : Nat) (x5 : Int32) (s1 : Int32) (Z : mjZt) (v9 : Int32) (Z9 : mjZt) (h : f190_appeal_j92 x1 x2 x3 x4 x5 s1 Z = some (v9, Z9)) : pG 190 92 [some (.ref 0), some (.int x1), some (.int x2), some (.int x3), some (.ref x4), some (.int x5)] [.int s1, .ref 209] (mjTo Z) (fun r M1 => r = some (.int v9) ∧ M1 = mjTo Z9) := by
  unfold f190_appeal_j92 at h
  refine pG_many 4 (pc1 := 97) (L1 := [some (.ref 0), some (.int x1), some (.int x2), some (.int x3), some (.ref x4), some (.int x5)]) (st1 := [.int 0, .int 0, .int x5, .int x1, .int s1, .ref 209]) (M1 := mjTo Z) rfl ?_
  cases hq118 : f4_keep s1 x1 x5 0 0 Z with
  | none => rw [hq118] at h; cases h
  | some w =>
    obtain ⟨v119, Z120⟩ := w
    rw [hq118, mjBd_some] at h
    refine pG_callV (k2 := 4) (As := [.ref 209, .int s1, .int x1, .int x5, .int 0, .int 0]) (rest := []) rfl rfl rfl rfl rfl (by rfl) (by decide) (f4_keep_ok hq118) ?_
    rintro r9 M9 ⟨rfl, rfl⟩
    show pG 190 100 [some (.ref 0), some (.int x1), some (.int x2), some (.int x3), some (.ref x4), some (.int x5)] [] (mjTo Z120) _
    refine pG_many 1 (pc1 := 101) (L1 := [some (.ref 0), some (.int x1), some (.int x2), some (.int x3), some (.ref x4), some (.int x5)]) (st1 := [.int x2]) (M1 := mjTo Z120) rfl ?_
    by_cases hc121 : mjCmp .ne x2 0 = true
    · rw [if_pos hc121] at h
      refine pG_ift (t := 113) rfl rfl hc121 ?_
      refine pG_many 2 (pc1 := 116) (L1 := [some (.ref 0), some (.int x1), some (.int x2), some (.int x3), some (.ref x4), some (.int x5)]) (st1 := [.int x3, .ref x4]) (M1 := mjTo Z120) rfl ?_
      have hk122 : mjIs x4 251 0 = true := by
        by_cases q9 : mjIs x4 251 0 = true
        · exact q9
        · rw [if_neg q9] at h; cases h
      rw [if_pos hk122] at h
      refine pG_putI (ci := 0) (f := 4) rfl rfl rfl rfl hk122 ?_
      rw [mjLet] at h
      generalize zSi Z120 x4 4 x3 = Z123 at h ⊢
      refine pG_many 1 (pc1 := 120) (L1 := [some (.ref 0), some (.int x1), some (.int x2), some (.int x3), some (.ref x4), some (.int x5)]) (st1 := [.ref 0]) (M1 := mjTo Z123) rfl ?_
      cases hq124 : f151_settleAll  Z123 with
      | none => rw [hq124] at h; cases h
      | some w =>
        obtain ⟨v125, Z126⟩ := w
        rw [hq124, mjBd_some] at h
        refine pG_callV (k2 := 151) (As := [.ref 0]) (rest := []) rfl rfl rfl rfl rfl (by rfl) (by decide) (f151_settleAll_ok hq124) ?_
        rintro r9 M9 ⟨rfl, rfl⟩
        show pG 190 123 [some (.ref 0), some (.int x1), some (.int x2), some (.int x3), some (.ref x4), some (.int x5)] [] (mjTo Z126) _
        refine pG_many 1 (pc1 := 125) (L1 := [some (.ref 0), some (.int x1), some (.int x2), some (.int x3), some (.ref x4), some (.int x5)]) (st1 := [.int x5]) (M1 := mjTo Z126) rfl ?_
        simp only [Option.some.injEq, Prod.mk.injEq] at h
        obtain ⟨rfl, rfl⟩ := h
        exact pG_ret (r := some (.int x5)) rfl ⟨rfl, rfl⟩
    · rw [if_neg hc121] at h
      refine pG_iff (t := 113) rfl rfl hc121 ?_
      refine pG_many 2 (pc1 := 107) (L1 := [some (.ref 0), some (.int x1), some (.int x2), some (.int x3), some (.ref x4), some (.int x5)]) (st1 := [.int x3, .ref x4]) (M1 := mjTo Z120) rfl ?_
      have hk127 : mjIs x4 251 0 = true := by
        by_cases q9 : mjIs x4 251 0 = true
        · exact q9
        · rw [if_neg q9] at h; cases h
      rw [if_pos hk127] at h
      refine pG_putI (ci := 0) (f := 3) rfl rfl rfl rfl hk127 ?_
      rw [mjLet] at h
      generalize zSi Z120 x4 3 x3 = Z128 at h ⊢
      refine pG_many 2 (pc1 := 120) (L1 := [some (.ref 0), some (.int x1), some (.int x2), some (.int x3), some (.ref x4), some (.int x5)]) (st1 := [.ref 0]) (M1 := mjTo Z128) rfl ?_
      cases hq129 : f151_settleAll  Z128 with
      | none => rw [hq129] at h; cases h
      | some w =>
        obtain ⟨v130, Z131⟩ := w
        rw [hq129, mjBd_some] at h
        refine pG_callV (k2 := 151) (As := [.ref 0]) (rest := []) rfl rfl rfl rfl rfl (by rfl) (by decide) (f151_settleAll_ok hq129) ?_
        rintro r9 M9 ⟨rfl, rfl⟩
        show pG 190 123 [some (.ref 0), some (.int x1), some (.int x2), some (.int x3), some (.ref x4), some (.int x5)] [] (mjTo Z131) _
        refine pG_many 1 (pc1 := 125) (L1 := [some (.ref 0), some (.int x1), some (.int x2), some (.int x3), some (.ref x4), some (.int x5)]) (st1 := [.int x5]) (M1 := mjTo Z131) rfl ?_
        simp only [Option.some.injEq, Prod.mk.injEq] at h
        obtain ⟨rfl, rfl⟩ := h
        exact pG_ret (r := some (.int x5)) rfl ⟨rfl, rfl⟩
def f190_appeal_j68 (x1 : Int32) (x2 : Int32) (x3 : Int32) (x4 : Nat) (x5 : Int32) (s0 : Int32) (s1 : Int32) (Z : mjZt) : Option (Int32 × mjZt) :=
  if mjCmp .gt s0 s1 = true then
    some ((-1), Z)
  else
    if mjCmp .ne x3 x5 = true then
      if mjCmp .ne x2 0 = true then
        f190_appeal_j92 x1 x2 x3 x4 x5 1 Z
      else
        f190_appeal_j92 x1 x2 x3 x4 x5 0 Z
    else
      some ((-1), Z)
theorem f190_appeal_j68_ok (x1 : Int32) (x2 : Int32) (x3 : Int32) (x4 : Nat) (x5 : Int32) (s0 : Int32) (s1 : Int32) (Z : mjZt) (v9 : Int32) (Z9 : mjZt) (h : f190_appeal_j68 x1 x2 x3 x4 x5 s0 s1 Z = some (v9, Z9)) : pG 190 68 [some (.ref 0), some (.int x1), some (.int x2), some (.int x3), some (.ref x4), some (.int x5)] [.int s1, .int s0] (mjTo Z) (fun r M1 => r = some (.int v9) ∧ M1 = mjTo Z9) := by
  unfold f190_appeal_j68 at h
  by_cases hc115 : mjCmp .gt s0 s1 = true
  · rw [if_pos hc115] at h
    refine pG_cmt (t := 77) rfl rfl hc115 ?_
    refine pG_many 1 (pc1 := 78) (L1 := [some (.ref 0), some (.int x1), some (.int x2), some (.int x3), some (.ref x4), some (.int x5)]) (st1 := [.int ((-1))]) (M1 := mjTo Z) rfl ?_
    simp only [Option.some.injEq, Prod.mk.injEq] at h
    obtain ⟨rfl, rfl⟩ := h
    exact pG_ret (r := some (.int ((-1)))) rfl ⟨rfl, rfl⟩
  · rw [if_neg hc115] at h
    refine pG_cmf (t := 77) rfl rfl hc115 ?_
    refine pG_many 2 (pc1 := 74) (L1 := [some (.ref 0), some (.int x1), some (.int x2), some (.int x3), some (.ref x4), some (.int x5)]) (st1 := [.int x5, .int x3]) (M1 := mjTo Z) rfl ?_
    by_cases hc116 : mjCmp .ne x3 x5 = true
    · rw [if_pos hc116] at h
      refine pG_cmt (t := 79) rfl rfl hc116 ?_
      refine pG_many 1 (pc1 := 80) (L1 := [some (.ref 0), some (.int x1), some (.int x2), some (.int x3), some (.ref x4), some (.int x5)]) (st1 := [.ref 0]) (M1 := mjTo Z) rfl ?_
      refine pG_getR (ci := 11) (f := 9) (b := 209) rfl rfl rfl (by rfl) rfl ?_
      refine pG_many 1 (pc1 := 84) (L1 := [some (.ref 0), some (.int x1), some (.int x2), some (.int x3), some (.ref x4), some (.int x5)]) (st1 := [.int x2, .ref 209]) (M1 := mjTo Z) rfl ?_
      by_cases hc117 : mjCmp .ne x2 0 = true
      · rw [if_pos hc117] at h
        refine pG_ift (t := 91) rfl rfl hc117 ?_
        refine pG_many 1 (pc1 := 92) (L1 := [some (.ref 0), some (.int x1), some (.int x2), some (.int x3), some (.ref x4), some (.int x5)]) (st1 := [.int 1, .ref 209]) (M1 := mjTo Z) rfl ?_
        exact f190_appeal_j92_ok x1 x2 x3 x4 x5 1 Z v9 Z9 h
      · rw [if_neg hc117] at h
        refine pG_iff (t := 91) rfl rfl hc117 ?_
        refine pG_many 2 (pc1 := 92) (L1 := [some (.ref 0), some (.int x1), some (.int x2), some (.int x3), some (.ref x4), some (.int x5)]) (st1 := [.int 0, .ref 209]) (M1 := mjTo Z) rfl ?_
        exact f190_appeal_j92_ok x1 x2 x3 x4 x5 0 Z v9 Z9 h
    · rw [if_neg hc116] at h
      refine pG_cmf (t := 79) rfl rfl hc116 ?_
      refine pG_many 1 (pc1 := 78) (L1 := [some (.ref 0), some (.int x1), some (.int x2), some (.int x3), some (.ref x4), some (.int x5)]) (st1 := [.int ((-1))]) (M1 := mjTo Z) rfl ?_
      simp only [Option.some.injEq, Prod.mk.injEq] at h
      obtain ⟨rfl, rfl⟩ := h
      exact pG_ret (r := some (.int ((-1)))) rfl ⟨rfl, rfl⟩
def f190_appeal_j53 (x1 : Int32) (x2 : Int32) (x3 : Int32) (x4 : Nat) (s0 : Int32) (Z : mjZt) : Option (Int32 × mjZt) :=
  if mjCmp .ne x2 0 = true then
    f190_appeal_j68 x1 x2 x3 x4 s0 x3 99 Z
  else
    f190_appeal_j68 x1 x2 x3 x4 s0 x3 9999 Z
theorem f190_appeal_j53_ok (x1 : Int32) (x2 : Int32) (x3 : Int32) (x4 : Nat) (s0 : Int32) (d5 : Option Value) (Z : mjZt) (v9 : Int32) (Z9 : mjZt) (h : f190_appeal_j53 x1 x2 x3 x4 s0 Z = some (v9, Z9)) : pG 190 53 [some (.ref 0), some (.int x1), some (.int x2), some (.int x3), some (.ref x4), d5] [.int s0] (mjTo Z) (fun r M1 => r = some (.int v9) ∧ M1 = mjTo Z9) := by
  unfold f190_appeal_j53 at h
  refine pG_many 3 (pc1 := 57) (L1 := [some (.ref 0), some (.int x1), some (.int x2), some (.int x3), some (.ref x4), some (.int s0)]) (st1 := [.int x2, .int x3]) (M1 := mjTo Z) rfl ?_
  by_cases hc114 : mjCmp .ne x2 0 = true
  · rw [if_pos hc114] at h
    refine pG_ift (t := 66) rfl rfl hc114 ?_
    refine pG_many 1 (pc1 := 68) (L1 := [some (.ref 0), some (.int x1), some (.int x2), some (.int x3), some (.ref x4), some (.int s0)]) (st1 := [.int 99, .int x3]) (M1 := mjTo Z) rfl ?_
    exact f190_appeal_j68_ok x1 x2 x3 x4 s0 x3 99 Z v9 Z9 h
  · rw [if_neg hc114] at h
    refine pG_iff (t := 66) rfl rfl hc114 ?_
    refine pG_many 2 (pc1 := 68) (L1 := [some (.ref 0), some (.int x1), some (.int x2), some (.int x3), some (.ref x4), some (.int s0)]) (st1 := [.int 9999, .int x3]) (M1 := mjTo Z) rfl ?_
    exact f190_appeal_j68_ok x1 x2 x3 x4 s0 x3 9999 Z v9 Z9 h
def f190_appeal (p0 : Int32) (p1 : Int32) (p2 : Int32) (Z : mjZt) : Option (Int32 × mjZt) :=
  if mjIs Z.2.2.1 251 2 = true then
  mjBp (f18_wasTold Z.2.2.1 p0 Z) fun v103 =>
  if mjCmp .eq v103 0 = true then
    some ((-1), Z)
  else
    if mjCmp .lt p1 0 = true then
      some ((-1), Z)
    else
      if mjCmp .gt p1 1 = true then
        some ((-1), Z)
      else
        if mjCmp .ge p2 0 = true then
          mjBp (f6_deed Z.2.2.1 p0 Z) fun v110 =>
          if mjCmp .ne p1 0 = true then
            if mjIs v110 251 0 = true then
            f190_appeal_j53 p0 p1 p2 v110 (Z.1 v110 4) Z
            else none
          else
            if mjIs v110 251 0 = true then
            f190_appeal_j53 p0 p1 p2 v110 (Z.1 v110 3) Z
            else none
        else
          some ((-1), Z)
  else none
theorem f190_appeal_ok {p0 : Int32} {p1 : Int32} {p2 : Int32} {Z : mjZt} {v9 : Int32} {Z9 : mjZt} (h : f190_appeal p0 p1 p2 Z = some (v9, Z9)) : pG 190 0 (mjEnt [.ref 0, .int p0, .int p1, .int p2] (mjML 190)) [] (mjTo Z) (fun r M1 => r = some (.int v9) ∧ M1 = mjTo Z9) := by
  unfold f190_appeal at h
  show pG 190 0 [some (.ref 0), some (.int p0), some (.int p1), some (.int p2), none, none] [] (mjTo Z) _
  refine pG_many 1 (pc1 := 1) (L1 := [some (.ref 0), some (.int p0), some (.int p1), some (.int p2), none, none]) (st1 := [.ref 0]) (M1 := mjTo Z) rfl ?_
  refine pG_getR (ci := 11) (f := 2) (b := Z.2.2.1) rfl rfl rfl (by rfl) rfl ?_
  refine pG_many 1 (pc1 := 5) (L1 := [some (.ref 0), some (.int p0), some (.int p1), some (.int p2), none, none]) (st1 := [.int p0, .ref Z.2.2.1]) (M1 := mjTo Z) rfl ?_
  have hk101 : mjIs Z.2.2.1 251 2 = true := by
    by_cases q9 : mjIs Z.2.2.1 251 2 = true
    · exact q9
    · rw [if_neg q9] at h; cases h
  rw [if_pos hk101] at h
  cases hq102 : f18_wasTold Z.2.2.1 p0 Z with
  | none => rw [hq102] at h; cases h
  | some v103 =>
    rw [hq102, mjBp_some] at h
    refine pG_callV (k2 := 18) (As := [.ref Z.2.2.1, .int p0]) (rest := []) rfl rfl rfl rfl rfl (mjRcv_is hk101 (by decide)) (by decide) (f18_wasTold_ok hq102) ?_
    rintro r9 M9 ⟨rfl, rfl⟩
    show pG 190 8 [some (.ref 0), some (.int p0), some (.int p1), some (.int p2), none, none] [.int v103] (mjTo Z) _
    by_cases hc105 : mjCmp .eq v103 0 = true
    · rw [if_pos hc105] at h
      refine pG_ift (t := 24) rfl rfl hc105 ?_
      refine pG_many 1 (pc1 := 25) (L1 := [some (.ref 0), some (.int p0), some (.int p1), some (.int p2), none, none]) (st1 := [.int ((-1))]) (M1 := mjTo Z) rfl ?_
      simp only [Option.some.injEq, Prod.mk.injEq] at h
      obtain ⟨rfl, rfl⟩ := h
      exact pG_ret (r := some (.int ((-1)))) rfl ⟨rfl, rfl⟩
    · rw [if_neg hc105] at h
      refine pG_iff (t := 24) rfl rfl hc105 ?_
      refine pG_many 1 (pc1 := 12) (L1 := [some (.ref 0), some (.int p0), some (.int p1), some (.int p2), none, none]) (st1 := [.int p1]) (M1 := mjTo Z) rfl ?_
      by_cases hc106 : mjCmp .lt p1 0 = true
      · rw [if_pos hc106] at h
        refine pG_ift (t := 24) rfl rfl hc106 ?_
        refine pG_many 1 (pc1 := 25) (L1 := [some (.ref 0), some (.int p0), some (.int p1), some (.int p2), none, none]) (st1 := [.int ((-1))]) (M1 := mjTo Z) rfl ?_
        simp only [Option.some.injEq, Prod.mk.injEq] at h
        obtain ⟨rfl, rfl⟩ := h
        exact pG_ret (r := some (.int ((-1)))) rfl ⟨rfl, rfl⟩
      · rw [if_neg hc106] at h
        refine pG_iff (t := 24) rfl rfl hc106 ?_
        refine pG_many 2 (pc1 := 17) (L1 := [some (.ref 0), some (.int p0), some (.int p1), some (.int p2), none, none]) (st1 := [.int 1, .int p1]) (M1 := mjTo Z) rfl ?_
        by_cases hc107 : mjCmp .gt p1 1 = true
        · rw [if_pos hc107] at h
          refine pG_cmt (t := 24) rfl rfl hc107 ?_
          refine pG_many 1 (pc1 := 25) (L1 := [some (.ref 0), some (.int p0), some (.int p1), some (.int p2), none, none]) (st1 := [.int ((-1))]) (M1 := mjTo Z) rfl ?_
          simp only [Option.some.injEq, Prod.mk.injEq] at h
          obtain ⟨rfl, rfl⟩ := h
          exact pG_ret (r := some (.int ((-1)))) rfl ⟨rfl, rfl⟩
        · rw [if_neg hc107] at h
          refine pG_cmf (t := 24) rfl rfl hc107 ?_
          refine pG_many 1 (pc1 := 21) (L1 := [some (.ref 0), some (.int p0), some (.int p1), some (.int p2), none, none]) (st1 := [.int p2]) (M1 := mjTo Z) rfl ?_
          by_cases hc108 : mjCmp .ge p2 0 = true
          · rw [if_pos hc108] at h
            refine pG_ift (t := 26) rfl rfl hc108 ?_
            refine pG_many 1 (pc1 := 27) (L1 := [some (.ref 0), some (.int p0), some (.int p1), some (.int p2), none, none]) (st1 := [.ref 0]) (M1 := mjTo Z) rfl ?_
            refine pG_getR (ci := 11) (f := 2) (b := Z.2.2.1) rfl rfl rfl (by rfl) rfl ?_
            refine pG_many 1 (pc1 := 31) (L1 := [some (.ref 0), some (.int p0), some (.int p1), some (.int p2), none, none]) (st1 := [.int p0, .ref Z.2.2.1]) (M1 := mjTo Z) rfl ?_
            cases hq109 : f6_deed Z.2.2.1 p0 Z with
            | none => rw [hq109] at h; cases h
            | some v110 =>
              rw [hq109, mjBp_some] at h
              refine pG_callV (k2 := 6) (As := [.ref Z.2.2.1, .int p0]) (rest := []) rfl rfl rfl rfl rfl (mjRcv_is hk101 (by decide)) (by decide) (f6_deed_ok hq109) ?_
              rintro r9 M9 ⟨rfl, rfl⟩
              show pG 190 34 [some (.ref 0), some (.int p0), some (.int p1), some (.int p2), none, none] [.ref v110] (mjTo Z) _
              refine pG_many 2 (pc1 := 37) (L1 := [some (.ref 0), some (.int p0), some (.int p1), some (.int p2), some (.ref v110), none]) (st1 := [.int p1]) (M1 := mjTo Z) rfl ?_
              by_cases hc112 : mjCmp .ne p1 0 = true
              · rw [if_pos hc112] at h
                refine pG_ift (t := 48) rfl rfl hc112 ?_
                refine pG_many 1 (pc1 := 50) (L1 := [some (.ref 0), some (.int p0), some (.int p1), some (.int p2), some (.ref v110), none]) (st1 := [.ref v110]) (M1 := mjTo Z) rfl ?_
                have hk113 : mjIs v110 251 0 = true := by
                  by_cases q9 : mjIs v110 251 0 = true
                  · exact q9
                  · rw [if_neg q9] at h; cases h
                rw [if_pos hk113] at h
                refine pG_getI (ci := 0) (f := 4) rfl rfl (Or.inl rfl) hk113 ?_
                exact f190_appeal_j53_ok p0 p1 p2 v110 (Z.1 v110 4) none Z v9 Z9 h
              · rw [if_neg hc112] at h
                refine pG_iff (t := 48) rfl rfl hc112 ?_
                refine pG_many 1 (pc1 := 42) (L1 := [some (.ref 0), some (.int p0), some (.int p1), some (.int p2), some (.ref v110), none]) (st1 := [.ref v110]) (M1 := mjTo Z) rfl ?_
                have hk132 : mjIs v110 251 0 = true := by
                  by_cases q9 : mjIs v110 251 0 = true
                  · exact q9
                  · rw [if_neg q9] at h; cases h
                rw [if_pos hk132] at h
                refine pG_getI (ci := 0) (f := 3) rfl rfl (Or.inl rfl) hk132 ?_
                refine pG_many 1 (pc1 := 53) (L1 := [some (.ref 0), some (.int p0), some (.int p1), some (.int p2), some (.ref v110), none]) (st1 := [.int (Z.1 v110 3)]) (M1 := mjTo Z) rfl ?_
                exact f190_appeal_j53_ok p0 p1 p2 v110 (Z.1 v110 3) none Z v9 Z9 h
          · rw [if_neg hc108] at h
            refine pG_iff (t := 26) rfl rfl hc108 ?_
            refine pG_many 1 (pc1 := 25) (L1 := [some (.ref 0), some (.int p0), some (.int p1), some (.int p2), none, none]) (st1 := [.int ((-1))]) (M1 := mjTo Z) rfl ?_
            simp only [Option.some.injEq, Prod.mk.injEq] at h
            obtain ⟨rfl, rfl⟩ := h
            exact pG_ret (r := some (.int ((-1)))) rfl ⟨rfl, rfl⟩
def f191_waive (p0 : Int32) (Z : mjZt) : Option (Int32 × mjZt) :=
  if mjIs Z.2.2.1 251 2 = true then
  mjBp (f18_wasTold Z.2.2.1 p0 Z) fun v103 =>
  if mjCmp .ne v103 0 = true then
    mjBd (f4_keep 2 p0 0 0 0 Z) fun _ Z108 =>
    if mjIs Z108.2.2.1 251 2 = true then
    mjLet (zSl Z108 Z108.2.2.1 11 ((Z108.2.1 Z108.2.2.1 11) ^^^ (1 <<< (Int32.toInt64 p0 &&& 63)))) fun Z110 =>
    mjBd (f151_settleAll  Z110) fun _ Z113 =>
    if mjIs Z113.2.2.1 251 2 = true then
    if mjCmp .ne (lg_cmp (((Z113.2.1 Z113.2.2.1 11) >>> (Int32.toInt64 p0 &&& 63)) &&& 1) 1) 0 = true then
      some (0, Z113)
    else
      some (1, Z113)
    else none
    else none
  else
    some ((-1), Z)
  else none
theorem f191_waive_ok {p0 : Int32} {Z : mjZt} {v9 : Int32} {Z9 : mjZt} (h : f191_waive p0 Z = some (v9, Z9)) : pG 191 0 (mjEnt [.ref 0, .int p0] (mjML 191)) [] (mjTo Z) (fun r M1 => r = some (.int v9) ∧ M1 = mjTo Z9) := by
  unfold f191_waive at h
  show pG 191 0 [some (.ref 0), some (.int p0)] [] (mjTo Z) _
  refine pG_many 1 (pc1 := 1) (L1 := [some (.ref 0), some (.int p0)]) (st1 := [.ref 0]) (M1 := mjTo Z) rfl ?_
  refine pG_getR (ci := 11) (f := 2) (b := Z.2.2.1) rfl rfl rfl (by rfl) rfl ?_
  refine pG_many 1 (pc1 := 5) (L1 := [some (.ref 0), some (.int p0)]) (st1 := [.int p0, .ref Z.2.2.1]) (M1 := mjTo Z) rfl ?_
  have hk101 : mjIs Z.2.2.1 251 2 = true := by
    by_cases q9 : mjIs Z.2.2.1 251 2 = true
    · exact q9
    · rw [if_neg q9] at h; cases h
  rw [if_pos hk101] at h
  cases hq102 : f18_wasTold Z.2.2.1 p0 Z with
  | none => rw [hq102] at h; cases h
  | some v103 =>
    rw [hq102, mjBp_some] at h
    refine pG_callV (k2 := 18) (As := [.ref Z.2.2.1, .int p0]) (rest := []) rfl rfl rfl rfl rfl (mjRcv_is hk101 (by decide)) (by decide) (f18_wasTold_ok hq102) ?_
    rintro r9 M9 ⟨rfl, rfl⟩
    show pG 191 8 [some (.ref 0), some (.int p0)] [.int v103] (mjTo Z) _
    by_cases hc105 : mjCmp .ne v103 0 = true
    · rw [if_pos hc105] at h
      refine pG_ift (t := 13) rfl rfl hc105 ?_
      refine pG_many 1 (pc1 := 14) (L1 := [some (.ref 0), some (.int p0)]) (st1 := [.ref 0]) (M1 := mjTo Z) rfl ?_
      refine pG_getR (ci := 11) (f := 9) (b := 209) rfl rfl rfl (by rfl) rfl ?_
      refine pG_many 5 (pc1 := 22) (L1 := [some (.ref 0), some (.int p0)]) (st1 := [.int 0, .int 0, .int 0, .int p0, .int 2, .ref 209]) (M1 := mjTo Z) rfl ?_
      cases hq106 : f4_keep 2 p0 0 0 0 Z with
      | none => rw [hq106] at h; cases h
      | some w =>
        obtain ⟨v107, Z108⟩ := w
        rw [hq106, mjBd_some] at h
        refine pG_callV (k2 := 4) (As := [.ref 209, .int 2, .int p0, .int 0, .int 0, .int 0]) (rest := []) rfl rfl rfl rfl rfl (by rfl) (by decide) (f4_keep_ok hq106) ?_
        rintro r9 M9 ⟨rfl, rfl⟩
        show pG 191 25 [some (.ref 0), some (.int p0)] [] (mjTo Z108) _
        refine pG_many 1 (pc1 := 26) (L1 := [some (.ref 0), some (.int p0)]) (st1 := [.ref 0]) (M1 := mjTo Z108) rfl ?_
        refine pG_getR (ci := 11) (f := 2) (b := Z108.2.2.1) rfl rfl rfl (by rfl) rfl ?_
        refine pG_many 1 (pc1 := 30) (L1 := [some (.ref 0), some (.int p0)]) (st1 := [.ref Z108.2.2.1, .ref Z108.2.2.1]) (M1 := mjTo Z108) rfl ?_
        have hk109 : mjIs Z108.2.2.1 251 2 = true := by
          by_cases q9 : mjIs Z108.2.2.1 251 2 = true
          · exact q9
          · rw [if_neg q9] at h; cases h
        rw [if_pos hk109] at h
        refine pG_getL (ci := 2) (f := 11) rfl rfl rfl hk109 ?_
        refine pG_many 4 (pc1 := 37) (L1 := [some (.ref 0), some (.int p0)]) (st1 := [.long ((Z108.2.1 Z108.2.2.1 11) ^^^ (1 <<< (Int32.toInt64 p0 &&& 63))), .ref Z108.2.2.1]) (M1 := mjTo Z108) rfl ?_
        refine pG_putL (ci := 2) (f := 11) rfl rfl rfl rfl hk109 ?_
        rw [mjLet] at h
        generalize zSl Z108 Z108.2.2.1 11 ((Z108.2.1 Z108.2.2.1 11) ^^^ (1 <<< (Int32.toInt64 p0 &&& 63))) = Z110 at h ⊢
        refine pG_many 1 (pc1 := 41) (L1 := [some (.ref 0), some (.int p0)]) (st1 := [.ref 0]) (M1 := mjTo Z110) rfl ?_
        cases hq111 : f151_settleAll  Z110 with
        | none => rw [hq111] at h; cases h
        | some w =>
          obtain ⟨v112, Z113⟩ := w
          rw [hq111, mjBd_some] at h
          refine pG_callV (k2 := 151) (As := [.ref 0]) (rest := []) rfl rfl rfl rfl rfl (by rfl) (by decide) (f151_settleAll_ok hq111) ?_
          rintro r9 M9 ⟨rfl, rfl⟩
          show pG 191 44 [some (.ref 0), some (.int p0)] [] (mjTo Z113) _
          refine pG_many 1 (pc1 := 45) (L1 := [some (.ref 0), some (.int p0)]) (st1 := [.ref 0]) (M1 := mjTo Z113) rfl ?_
          refine pG_getR (ci := 11) (f := 2) (b := Z113.2.2.1) rfl rfl rfl (by rfl) rfl ?_
          have hk114 : mjIs Z113.2.2.1 251 2 = true := by
            by_cases q9 : mjIs Z113.2.2.1 251 2 = true
            · exact q9
            · rw [if_neg q9] at h; cases h
          rw [if_pos hk114] at h
          refine pG_getL (ci := 2) (f := 11) rfl rfl rfl hk114 ?_
          refine pG_many 6 (pc1 := 57) (L1 := [some (.ref 0), some (.int p0)]) (st1 := [.int (lg_cmp (((Z113.2.1 Z113.2.2.1 11) >>> (Int32.toInt64 p0 &&& 63)) &&& 1) 1)]) (M1 := mjTo Z113) rfl ?_
          by_cases hc115 : mjCmp .ne (lg_cmp (((Z113.2.1 Z113.2.2.1 11) >>> (Int32.toInt64 p0 &&& 63)) &&& 1) 1) 0 = true
          · rw [if_pos hc115] at h
            refine pG_ift (t := 64) rfl rfl hc115 ?_
            refine pG_many 1 (pc1 := 65) (L1 := [some (.ref 0), some (.int p0)]) (st1 := [.int 0]) (M1 := mjTo Z113) rfl ?_
            simp only [Option.some.injEq, Prod.mk.injEq] at h
            obtain ⟨rfl, rfl⟩ := h
            exact pG_ret (r := some (.int 0)) rfl ⟨rfl, rfl⟩
          · rw [if_neg hc115] at h
            refine pG_iff (t := 64) rfl rfl hc115 ?_
            refine pG_many 2 (pc1 := 65) (L1 := [some (.ref 0), some (.int p0)]) (st1 := [.int 1]) (M1 := mjTo Z113) rfl ?_
            simp only [Option.some.injEq, Prod.mk.injEq] at h
            obtain ⟨rfl, rfl⟩ := h
            exact pG_ret (r := some (.int 1)) rfl ⟨rfl, rfl⟩
    · rw [if_neg hc105] at h
      refine pG_iff (t := 13) rfl rfl hc105 ?_
      refine pG_many 1 (pc1 := 12) (L1 := [some (.ref 0), some (.int p0)]) (st1 := [.int ((-1))]) (M1 := mjTo Z) rfl ?_
      simp only [Option.some.injEq, Prod.mk.injEq] at h
      obtain ⟨rfl, rfl⟩ := h
      exact pG_ret (r := some (.int ((-1)))) rfl ⟨rfl, rfl⟩
def f192_measure_j73 (x1 : Int32) (x2 : Int32) (x3 : Int32) (x4 : Int32) (x5 : Int32) (x6 : Nat) (s0 : Int32) (Z : mjZt) : Option (Int32 × mjZt) :=
  if mjCmp .lt x4 (-x5) = true then
    some ((-1), Z)
  else
    if mjCmp .gt x4 x5 = true then
      some ((-1), Z)
    else
      if mjCmp .eq s0 0 = true then
        if mjIs x6 251 7 = true then
        mjBp (f108_tenthsOf x6 x2 Z) fun v124 =>
        mjBp (f32_metresOf x6 x2 Z) fun v127 =>
        mjBd (f4_keep 3 x1 x2 v124 v127 Z) fun _ Z131 =>
        mjBd (f9_setLeg x6 x2 x3 x4 Z131) fun _ Z134 =>
        mjBd (f151_settleAll  Z134) fun _ Z137 =>
        mjBp (f99_time x6 Z137) fun v139 =>
        some (v139, Z137)
        else none
      else
        some ((-1), Z)
theorem f192_measure_j73_ok (x1 : Int32) (x2 : Int32) (x3 : Int32) (x4 : Int32) (x5 : Int32) (x6 : Nat) (s0 : Int32) (d7 : Option Value) (Z : mjZt) (v9 : Int32) (Z9 : mjZt) (h : f192_measure_j73 x1 x2 x3 x4 x5 x6 s0 Z = some (v9, Z9)) : pG 192 73 [some (.ref 0), some (.int x1), some (.int x2), some (.int x3), some (.int x4), some (.int x5), some (.ref x6), d7] [.int s0] (mjTo Z) (fun r M1 => r = some (.int v9) ∧ M1 = mjTo Z9) := by
  unfold f192_measure_j73 at h
  refine pG_many 4 (pc1 := 80) (L1 := [some (.ref 0), some (.int x1), some (.int x2), some (.int x3), some (.int x4), some (.int x5), some (.ref x6), some (.int s0)]) (st1 := [.int (-x5), .int x4]) (M1 := mjTo Z) rfl ?_
  by_cases hc119 : mjCmp .lt x4 (-x5) = true
  · rw [if_pos hc119] at h
    refine pG_cmt (t := 95) rfl rfl hc119 ?_
    refine pG_many 1 (pc1 := 96) (L1 := [some (.ref 0), some (.int x1), some (.int x2), some (.int x3), some (.int x4), some (.int x5), some (.ref x6), some (.int s0)]) (st1 := [.int ((-1))]) (M1 := mjTo Z) rfl ?_
    simp only [Option.some.injEq, Prod.mk.injEq] at h
    obtain ⟨rfl, rfl⟩ := h
    exact pG_ret (r := some (.int ((-1)))) rfl ⟨rfl, rfl⟩
  · rw [if_neg hc119] at h
    refine pG_cmf (t := 95) rfl rfl hc119 ?_
    refine pG_many 2 (pc1 := 87) (L1 := [some (.ref 0), some (.int x1), some (.int x2), some (.int x3), some (.int x4), some (.int x5), some (.ref x6), some (.int s0)]) (st1 := [.int x5, .int x4]) (M1 := mjTo Z) rfl ?_
    by_cases hc120 : mjCmp .gt x4 x5 = true
    · rw [if_pos hc120] at h
      refine pG_cmt (t := 95) rfl rfl hc120 ?_
      refine pG_many 1 (pc1 := 96) (L1 := [some (.ref 0), some (.int x1), some (.int x2), some (.int x3), some (.int x4), some (.int x5), some (.ref x6), some (.int s0)]) (st1 := [.int ((-1))]) (M1 := mjTo Z) rfl ?_
      simp only [Option.some.injEq, Prod.mk.injEq] at h
      obtain ⟨rfl, rfl⟩ := h
      exact pG_ret (r := some (.int ((-1)))) rfl ⟨rfl, rfl⟩
    · rw [if_neg hc120] at h
      refine pG_cmf (t := 95) rfl rfl hc120 ?_
      refine pG_many 1 (pc1 := 92) (L1 := [some (.ref 0), some (.int x1), some (.int x2), some (.int x3), some (.int x4), some (.int x5), some (.ref x6), some (.int s0)]) (st1 := [.int s0]) (M1 := mjTo Z) rfl ?_
      by_cases hc121 : mjCmp .eq s0 0 = true
      · rw [if_pos hc121] at h
        refine pG_ift (t := 97) rfl rfl hc121 ?_
        refine pG_many 1 (pc1 := 98) (L1 := [some (.ref 0), some (.int x1), some (.int x2), some (.int x3), some (.int x4), some (.int x5), some (.ref x6), some (.int s0)]) (st1 := [.ref 0]) (M1 := mjTo Z) rfl ?_
        refine pG_getR (ci := 11) (f := 9) (b := 209) rfl rfl rfl (by rfl) rfl ?_
        refine pG_many 5 (pc1 := 107) (L1 := [some (.ref 0), some (.int x1), some (.int x2), some (.int x3), some (.int x4), some (.int x5), some (.ref x6), some (.int s0)]) (st1 := [.int x2, .ref x6, .int x2, .int x1, .int 3, .ref 209]) (M1 := mjTo Z) rfl ?_
        have hk122 : mjIs x6 251 7 = true := by
          by_cases q9 : mjIs x6 251 7 = true
          · exact q9
          · rw [if_neg q9] at h; cases h
        rw [if_pos hk122] at h
        cases hq123 : f108_tenthsOf x6 x2 Z with
        | none => rw [hq123] at h; cases h
        | some v124 =>
          rw [hq123, mjBp_some] at h
          refine pG_callV (k2 := 108) (As := [.ref x6, .int x2]) (rest := [.int x2, .int x1, .int 3, .ref 209]) rfl rfl rfl rfl rfl (mjRcv_is hk122 (by decide)) (by decide) (f108_tenthsOf_ok hq123) ?_
          rintro r9 M9 ⟨rfl, rfl⟩
          show pG 192 110 [some (.ref 0), some (.int x1), some (.int x2), some (.int x3), some (.int x4), some (.int x5), some (.ref x6), some (.int s0)] [.int v124, .int x2, .int x1, .int 3, .ref 209] (mjTo Z) _
          refine pG_many 2 (pc1 := 113) (L1 := [some (.ref 0), some (.int x1), some (.int x2), some (.int x3), some (.int x4), some (.int x5), some (.ref x6), some (.int s0)]) (st1 := [.int x2, .ref x6, .int v124, .int x2, .int x1, .int 3, .ref 209]) (M1 := mjTo Z) rfl ?_
          cases hq126 : f32_metresOf x6 x2 Z with
          | none => rw [hq126] at h; cases h
          | some v127 =>
            rw [hq126, mjBp_some] at h
            refine pG_callV (k2 := 32) (As := [.ref x6, .int x2]) (rest := [.int v124, .int x2, .int x1, .int 3, .ref 209]) rfl rfl rfl rfl rfl (mjRcv_is hk122 (by decide)) (by decide) (f32_metresOf_ok hq126) ?_
            rintro r9 M9 ⟨rfl, rfl⟩
            show pG 192 116 [some (.ref 0), some (.int x1), some (.int x2), some (.int x3), some (.int x4), some (.int x5), some (.ref x6), some (.int s0)] [.int v127, .int v124, .int x2, .int x1, .int 3, .ref 209] (mjTo Z) _
            cases hq129 : f4_keep 3 x1 x2 v124 v127 Z with
            | none => rw [hq129] at h; cases h
            | some w =>
              obtain ⟨v130, Z131⟩ := w
              rw [hq129, mjBd_some] at h
              refine pG_callV (k2 := 4) (As := [.ref 209, .int 3, .int x1, .int x2, .int v124, .int v127]) (rest := []) rfl rfl rfl rfl rfl (by rfl) (by decide) (f4_keep_ok hq129) ?_
              rintro r9 M9 ⟨rfl, rfl⟩
              show pG 192 119 [some (.ref 0), some (.int x1), some (.int x2), some (.int x3), some (.int x4), some (.int x5), some (.ref x6), some (.int s0)] [] (mjTo Z131) _
              refine pG_many 4 (pc1 := 125) (L1 := [some (.ref 0), some (.int x1), some (.int x2), some (.int x3), some (.int x4), some (.int x5), some (.ref x6), some (.int s0)]) (st1 := [.int x4, .int x3, .int x2, .ref x6]) (M1 := mjTo Z131) rfl ?_
              cases hq132 : f9_setLeg x6 x2 x3 x4 Z131 with
              | none => rw [hq132] at h; cases h
              | some w =>
                obtain ⟨v133, Z134⟩ := w
                rw [hq132, mjBd_some] at h
                refine pG_callV (k2 := 9) (As := [.ref x6, .int x2, .int x3, .int x4]) (rest := []) rfl rfl rfl rfl rfl (mjRcv_is hk122 (by decide)) (by decide) (f9_setLeg_ok hq132) ?_
                rintro r9 M9 ⟨rfl, rfl⟩
                show pG 192 128 [some (.ref 0), some (.int x1), some (.int x2), some (.int x3), some (.int x4), some (.int x5), some (.ref x6), some (.int s0)] [] (mjTo Z134) _
                refine pG_many 1 (pc1 := 129) (L1 := [some (.ref 0), some (.int x1), some (.int x2), some (.int x3), some (.int x4), some (.int x5), some (.ref x6), some (.int s0)]) (st1 := [.ref 0]) (M1 := mjTo Z134) rfl ?_
                cases hq135 : f151_settleAll  Z134 with
                | none => rw [hq135] at h; cases h
                | some w =>
                  obtain ⟨v136, Z137⟩ := w
                  rw [hq135, mjBd_some] at h
                  refine pG_callV (k2 := 151) (As := [.ref 0]) (rest := []) rfl rfl rfl rfl rfl (by rfl) (by decide) (f151_settleAll_ok hq135) ?_
                  rintro r9 M9 ⟨rfl, rfl⟩
                  show pG 192 132 [some (.ref 0), some (.int x1), some (.int x2), some (.int x3), some (.int x4), some (.int x5), some (.ref x6), some (.int s0)] [] (mjTo Z137) _
                  refine pG_many 1 (pc1 := 134) (L1 := [some (.ref 0), some (.int x1), some (.int x2), some (.int x3), some (.int x4), some (.int x5), some (.ref x6), some (.int s0)]) (st1 := [.ref x6]) (M1 := mjTo Z137) rfl ?_
                  cases hq138 : f99_time x6 Z137 with
                  | none => rw [hq138] at h; cases h
                  | some v139 =>
                    rw [hq138, mjBp_some] at h
                    refine pG_callV (k2 := 99) (As := [.ref x6]) (rest := []) rfl rfl rfl rfl rfl (mjRcv_is hk122 (by decide)) (by decide) (f99_time_ok hq138) ?_
                    rintro r9 M9 ⟨rfl, rfl⟩
                    show pG 192 137 [some (.ref 0), some (.int x1), some (.int x2), some (.int x3), some (.int x4), some (.int x5), some (.ref x6), some (.int s0)] [.int v139] (mjTo Z137) _
                    simp only [Option.some.injEq, Prod.mk.injEq] at h
                    obtain ⟨rfl, rfl⟩ := h
                    exact pG_ret (r := some (.int v139)) rfl ⟨rfl, rfl⟩
      · rw [if_neg hc121] at h
        refine pG_iff (t := 97) rfl rfl hc121 ?_
        refine pG_many 1 (pc1 := 96) (L1 := [some (.ref 0), some (.int x1), some (.int x2), some (.int x3), some (.int x4), some (.int x5), some (.ref x6), some (.int s0)]) (st1 := [.int ((-1))]) (M1 := mjTo Z) rfl ?_
        simp only [Option.some.injEq, Prod.mk.injEq] at h
        obtain ⟨rfl, rfl⟩ := h
        exact pG_ret (r := some (.int ((-1)))) rfl ⟨rfl, rfl⟩
def f192_measure_j72 (x1 : Int32) (x2 : Int32) (x3 : Int32) (x4 : Int32) (x5 : Int32) (x6 : Nat) (Z : mjZt) : Option (Int32 × mjZt) :=
  f192_measure_j73 x1 x2 x3 x4 x5 x6 0 Z
theorem f192_measure_j72_ok (x1 : Int32) (x2 : Int32) (x3 : Int32) (x4 : Int32) (x5 : Int32) (x6 : Nat) (d7 : Option Value) (Z : mjZt) (v9 : Int32) (Z9 : mjZt) (h : f192_measure_j72 x1 x2 x3 x4 x5 x6 Z = some (v9, Z9)) : pG 192 72 [some (.ref 0), some (.int x1), some (.int x2), some (.int x3), some (.int x4), some (.int x5), some (.ref x6), d7] [] (mjTo Z) (fun r M1 => r = some (.int v9) ∧ M1 = mjTo Z9) := by
  unfold f192_measure_j72 at h
  refine pG_many 1 (pc1 := 73) (L1 := [some (.ref 0), some (.int x1), some (.int x2), some (.int x3), some (.int x4), some (.int x5), some (.ref x6), d7]) (st1 := [.int 0]) (M1 := mjTo Z) rfl ?_
  exact f192_measure_j73_ok x1 x2 x3 x4 x5 x6 0 d7 Z v9 Z9 h
def f192_measure (p0 : Int32) (p1 : Int32) (p2 : Int32) (p3 : Int32) (Z : mjZt) : Option (Int32 × mjZt) :=
  if mjIs Z.2.2.1 251 2 = true then
  mjBp (f19_hasLeg Z.2.2.1 p0 p1 Z) fun v103 =>
  if mjCmp .eq v103 0 = true then
    some ((-1), Z)
  else
    if mjCmp .lt p2 20 = true then
      some ((-1), Z)
    else
      if mjCmp .le p2 999 = true then
        mjBp (f30_mostMetres Z.2.2.1 p1 Z) fun v109 =>
        mjBp (f8_runner Z.2.2.1 p0 Z) fun v112 =>
        if mjIs v112 251 7 = true then
        mjBp (f108_tenthsOf v112 p1 Z) fun v116 =>
        if mjCmp .ne p2 v116 = true then
          f192_measure_j72 p0 p1 p2 p3 v109 v112 Z
        else
          mjBp (f32_metresOf v112 p1 Z) fun v142 =>
          if mjCmp .ne p3 v142 = true then
            f192_measure_j72 p0 p1 p2 p3 v109 v112 Z
          else
            f192_measure_j73 p0 p1 p2 p3 v109 v112 1 Z
        else none
      else
        some ((-1), Z)
  else none
theorem f192_measure_ok {p0 : Int32} {p1 : Int32} {p2 : Int32} {p3 : Int32} {Z : mjZt} {v9 : Int32} {Z9 : mjZt} (h : f192_measure p0 p1 p2 p3 Z = some (v9, Z9)) : pG 192 0 (mjEnt [.ref 0, .int p0, .int p1, .int p2, .int p3] (mjML 192)) [] (mjTo Z) (fun r M1 => r = some (.int v9) ∧ M1 = mjTo Z9) := by
  unfold f192_measure at h
  show pG 192 0 [some (.ref 0), some (.int p0), some (.int p1), some (.int p2), some (.int p3), none, none, none] [] (mjTo Z) _
  refine pG_many 1 (pc1 := 1) (L1 := [some (.ref 0), some (.int p0), some (.int p1), some (.int p2), some (.int p3), none, none, none]) (st1 := [.ref 0]) (M1 := mjTo Z) rfl ?_
  refine pG_getR (ci := 11) (f := 2) (b := Z.2.2.1) rfl rfl rfl (by rfl) rfl ?_
  refine pG_many 2 (pc1 := 6) (L1 := [some (.ref 0), some (.int p0), some (.int p1), some (.int p2), some (.int p3), none, none, none]) (st1 := [.int p1, .int p0, .ref Z.2.2.1]) (M1 := mjTo Z) rfl ?_
  have hk101 : mjIs Z.2.2.1 251 2 = true := by
    by_cases q9 : mjIs Z.2.2.1 251 2 = true
    · exact q9
    · rw [if_neg q9] at h; cases h
  rw [if_pos hk101] at h
  cases hq102 : f19_hasLeg Z.2.2.1 p0 p1 Z with
  | none => rw [hq102] at h; cases h
  | some v103 =>
    rw [hq102, mjBp_some] at h
    refine pG_callV (k2 := 19) (As := [.ref Z.2.2.1, .int p0, .int p1]) (rest := []) rfl rfl rfl rfl rfl (mjRcv_is hk101 (by decide)) (by decide) (f19_hasLeg_ok hq102) ?_
    rintro r9 M9 ⟨rfl, rfl⟩
    show pG 192 9 [some (.ref 0), some (.int p0), some (.int p1), some (.int p2), some (.int p3), none, none, none] [.int v103] (mjTo Z) _
    by_cases hc105 : mjCmp .eq v103 0 = true
    · rw [if_pos hc105] at h
      refine pG_ift (t := 25) rfl rfl hc105 ?_
      refine pG_many 1 (pc1 := 26) (L1 := [some (.ref 0), some (.int p0), some (.int p1), some (.int p2), some (.int p3), none, none, none]) (st1 := [.int ((-1))]) (M1 := mjTo Z) rfl ?_
      simp only [Option.some.injEq, Prod.mk.injEq] at h
      obtain ⟨rfl, rfl⟩ := h
      exact pG_ret (r := some (.int ((-1)))) rfl ⟨rfl, rfl⟩
    · rw [if_neg hc105] at h
      refine pG_iff (t := 25) rfl rfl hc105 ?_
      refine pG_many 2 (pc1 := 15) (L1 := [some (.ref 0), some (.int p0), some (.int p1), some (.int p2), some (.int p3), none, none, none]) (st1 := [.int 20, .int p2]) (M1 := mjTo Z) rfl ?_
      by_cases hc106 : mjCmp .lt p2 20 = true
      · rw [if_pos hc106] at h
        refine pG_cmt (t := 25) rfl rfl hc106 ?_
        refine pG_many 1 (pc1 := 26) (L1 := [some (.ref 0), some (.int p0), some (.int p1), some (.int p2), some (.int p3), none, none, none]) (st1 := [.int ((-1))]) (M1 := mjTo Z) rfl ?_
        simp only [Option.some.injEq, Prod.mk.injEq] at h
        obtain ⟨rfl, rfl⟩ := h
        exact pG_ret (r := some (.int ((-1)))) rfl ⟨rfl, rfl⟩
      · rw [if_neg hc106] at h
        refine pG_cmf (t := 25) rfl rfl hc106 ?_
        refine pG_many 2 (pc1 := 22) (L1 := [some (.ref 0), some (.int p0), some (.int p1), some (.int p2), some (.int p3), none, none, none]) (st1 := [.int 999, .int p2]) (M1 := mjTo Z) rfl ?_
        by_cases hc107 : mjCmp .le p2 999 = true
        · rw [if_pos hc107] at h
          refine pG_cmt (t := 27) rfl rfl hc107 ?_
          refine pG_many 1 (pc1 := 28) (L1 := [some (.ref 0), some (.int p0), some (.int p1), some (.int p2), some (.int p3), none, none, none]) (st1 := [.ref 0]) (M1 := mjTo Z) rfl ?_
          refine pG_getR (ci := 11) (f := 2) (b := Z.2.2.1) rfl rfl rfl (by rfl) rfl ?_
          refine pG_many 1 (pc1 := 32) (L1 := [some (.ref 0), some (.int p0), some (.int p1), some (.int p2), some (.int p3), none, none, none]) (st1 := [.int p1, .ref Z.2.2.1]) (M1 := mjTo Z) rfl ?_
          cases hq108 : f30_mostMetres Z.2.2.1 p1 Z with
          | none => rw [hq108] at h; cases h
          | some v109 =>
            rw [hq108, mjBp_some] at h
            refine pG_callV (k2 := 30) (As := [.ref Z.2.2.1, .int p1]) (rest := []) rfl rfl rfl rfl rfl (mjRcv_is hk101 (by decide)) (by decide) (f30_mostMetres_ok hq108) ?_
            rintro r9 M9 ⟨rfl, rfl⟩
            show pG 192 35 [some (.ref 0), some (.int p0), some (.int p1), some (.int p2), some (.int p3), none, none, none] [.int v109] (mjTo Z) _
            refine pG_many 2 (pc1 := 38) (L1 := [some (.ref 0), some (.int p0), some (.int p1), some (.int p2), some (.int p3), some (.int v109), none, none]) (st1 := [.ref 0]) (M1 := mjTo Z) rfl ?_
            refine pG_getR (ci := 11) (f := 2) (b := Z.2.2.1) rfl rfl rfl (by rfl) rfl ?_
            refine pG_many 1 (pc1 := 42) (L1 := [some (.ref 0), some (.int p0), some (.int p1), some (.int p2), some (.int p3), some (.int v109), none, none]) (st1 := [.int p0, .ref Z.2.2.1]) (M1 := mjTo Z) rfl ?_
            cases hq111 : f8_runner Z.2.2.1 p0 Z with
            | none => rw [hq111] at h; cases h
            | some v112 =>
              rw [hq111, mjBp_some] at h
              refine pG_callV (k2 := 8) (As := [.ref Z.2.2.1, .int p0]) (rest := []) rfl rfl rfl rfl rfl (mjRcv_is hk101 (by decide)) (by decide) (f8_runner_ok hq111) ?_
              rintro r9 M9 ⟨rfl, rfl⟩
              show pG 192 45 [some (.ref 0), some (.int p0), some (.int p1), some (.int p2), some (.int p3), some (.int v109), none, none] [.ref v112] (mjTo Z) _
              refine pG_many 4 (pc1 := 51) (L1 := [some (.ref 0), some (.int p0), some (.int p1), some (.int p2), some (.int p3), some (.int v109), some (.ref v112), none]) (st1 := [.int p1, .ref v112, .int p2]) (M1 := mjTo Z) rfl ?_
              have hk114 : mjIs v112 251 7 = true := by
                by_cases q9 : mjIs v112 251 7 = true
                · exact q9
                · rw [if_neg q9] at h; cases h
              rw [if_pos hk114] at h
              cases hq115 : f108_tenthsOf v112 p1 Z with
              | none => rw [hq115] at h; cases h
              | some v116 =>
                rw [hq115, mjBp_some] at h
                refine pG_callV (k2 := 108) (As := [.ref v112, .int p1]) (rest := [.int p2]) rfl rfl rfl rfl rfl (mjRcv_is hk114 (by decide)) (by decide) (f108_tenthsOf_ok hq115) ?_
                rintro r9 M9 ⟨rfl, rfl⟩
                show pG 192 54 [some (.ref 0), some (.int p0), some (.int p1), some (.int p2), some (.int p3), some (.int v109), some (.ref v112), none] [.int v116, .int p2] (mjTo Z) _
                by_cases hc118 : mjCmp .ne p2 v116 = true
                · rw [if_pos hc118] at h
                  refine pG_cmt (t := 72) rfl rfl hc118 ?_
                  exact f192_measure_j72_ok p0 p1 p2 p3 v109 v112 none Z v9 Z9 h
                · rw [if_neg hc118] at h
                  refine pG_cmf (t := 72) rfl rfl hc118 ?_
                  refine pG_many 3 (pc1 := 62) (L1 := [some (.ref 0), some (.int p0), some (.int p1), some (.int p2), some (.int p3), some (.int v109), some (.ref v112), none]) (st1 := [.int p1, .ref v112, .int p3]) (M1 := mjTo Z) rfl ?_
                  cases hq141 : f32_metresOf v112 p1 Z with
                  | none => rw [hq141] at h; cases h
                  | some v142 =>
                    rw [hq141, mjBp_some] at h
                    refine pG_callV (k2 := 32) (As := [.ref v112, .int p1]) (rest := [.int p3]) rfl rfl rfl rfl rfl (mjRcv_is hk114 (by decide)) (by decide) (f32_metresOf_ok hq141) ?_
                    rintro r9 M9 ⟨rfl, rfl⟩
                    show pG 192 65 [some (.ref 0), some (.int p0), some (.int p1), some (.int p2), some (.int p3), some (.int v109), some (.ref v112), none] [.int v142, .int p3] (mjTo Z) _
                    by_cases hc144 : mjCmp .ne p3 v142 = true
                    · rw [if_pos hc144] at h
                      refine pG_cmt (t := 72) rfl rfl hc144 ?_
                      exact f192_measure_j72_ok p0 p1 p2 p3 v109 v112 none Z v9 Z9 h
                    · rw [if_neg hc144] at h
                      refine pG_cmf (t := 72) rfl rfl hc144 ?_
                      refine pG_many 2 (pc1 := 73) (L1 := [some (.ref 0), some (.int p0), some (.int p1), some (.int p2), some (.int p3), some (.int v109), some (.ref v112), none]) (st1 := [.int 1]) (M1 := mjTo Z) rfl ?_
                      exact f192_measure_j73_ok p0 p1 p2 p3 v109 v112 1 none Z v9 Z9 h
        · rw [if_neg hc107] at h
          refine pG_cmf (t := 27) rfl rfl hc107 ?_
          refine pG_many 1 (pc1 := 26) (L1 := [some (.ref 0), some (.int p0), some (.int p1), some (.int p2), some (.int p3), none, none, none]) (st1 := [.int ((-1))]) (M1 := mjTo Z) rfl ?_
          simp only [Option.some.injEq, Prod.mk.injEq] at h
          obtain ⟨rfl, rfl⟩ := h
          exact pG_ret (r := some (.int ((-1)))) rfl ⟨rfl, rfl⟩
def f193_undo  (Z : mjZt) : Option (Int32 × mjZt) :=
  if mjCmp .ne (Z.1 209 2) 0 = true then
    mjBd (f10_takeBack Z.2.2.1 Z) fun _ Z104 =>
    mjBd (f151_settleAll  Z104) fun _ Z107 =>
    some (Z107.1 209 2, Z107)
  else
    some ((-1), Z)
theorem f193_undo_ok  {Z : mjZt} {v9 : Int32} {Z9 : mjZt} (h : f193_undo  Z = some (v9, Z9)) : pG 193 0 (mjEnt [.ref 0] (mjML 193)) [] (mjTo Z) (fun r M1 => r = some (.int v9) ∧ M1 = mjTo Z9) := by
  unfold f193_undo at h
  show pG 193 0 [some (.ref 0)] [] (mjTo Z) _
  refine pG_many 1 (pc1 := 1) (L1 := [some (.ref 0)]) (st1 := [.ref 0]) (M1 := mjTo Z) rfl ?_
  refine pG_getR (ci := 11) (f := 9) (b := 209) rfl rfl rfl (by rfl) rfl ?_
  refine pG_getI (ci := 1) (f := 2) rfl rfl (Or.inl rfl) (by rfl) ?_
  by_cases hc101 : mjCmp .ne (Z.1 209 2) 0 = true
  · rw [if_pos hc101] at h
    refine pG_ift (t := 12) rfl rfl hc101 ?_
    refine pG_many 1 (pc1 := 13) (L1 := [some (.ref 0)]) (st1 := [.ref 0]) (M1 := mjTo Z) rfl ?_
    refine pG_getR (ci := 11) (f := 9) (b := 209) rfl rfl rfl (by rfl) rfl ?_
    refine pG_many 1 (pc1 := 17) (L1 := [some (.ref 0)]) (st1 := [.ref 0, .ref 209]) (M1 := mjTo Z) rfl ?_
    refine pG_getR (ci := 11) (f := 2) (b := Z.2.2.1) rfl rfl rfl (by rfl) rfl ?_
    cases hq102 : f10_takeBack Z.2.2.1 Z with
    | none => rw [hq102] at h; cases h
    | some w =>
      obtain ⟨v103, Z104⟩ := w
      rw [hq102, mjBd_some] at h
      refine pG_callV (k2 := 10) (As := [.ref 209, .ref Z.2.2.1]) (rest := []) rfl rfl rfl rfl rfl (by rfl) (by decide) (f10_takeBack_ok hq102) ?_
      rintro r9 M9 ⟨rfl, rfl⟩
      show pG 193 23 [some (.ref 0)] [] (mjTo Z104) _
      refine pG_many 1 (pc1 := 24) (L1 := [some (.ref 0)]) (st1 := [.ref 0]) (M1 := mjTo Z104) rfl ?_
      cases hq105 : f151_settleAll  Z104 with
      | none => rw [hq105] at h; cases h
      | some w =>
        obtain ⟨v106, Z107⟩ := w
        rw [hq105, mjBd_some] at h
        refine pG_callV (k2 := 151) (As := [.ref 0]) (rest := []) rfl rfl rfl rfl rfl (by rfl) (by decide) (f151_settleAll_ok hq105) ?_
        rintro r9 M9 ⟨rfl, rfl⟩
        show pG 193 27 [some (.ref 0)] [] (mjTo Z107) _
        refine pG_many 1 (pc1 := 28) (L1 := [some (.ref 0)]) (st1 := [.ref 0]) (M1 := mjTo Z107) rfl ?_
        refine pG_getR (ci := 11) (f := 9) (b := 209) rfl rfl rfl (by rfl) rfl ?_
        refine pG_getI (ci := 1) (f := 2) rfl rfl (Or.inl rfl) (by rfl) ?_
        simp only [Option.some.injEq, Prod.mk.injEq] at h
        obtain ⟨rfl, rfl⟩ := h
        exact pG_ret (r := some (.int (Z107.1 209 2))) rfl ⟨rfl, rfl⟩
  · rw [if_neg hc101] at h
    refine pG_iff (t := 12) rfl rfl hc101 ?_
    refine pG_many 1 (pc1 := 11) (L1 := [some (.ref 0)]) (st1 := [.int ((-1))]) (M1 := mjTo Z) rfl ?_
    simp only [Option.some.injEq, Prod.mk.injEq] at h
    obtain ⟨rfl, rfl⟩ := h
    exact pG_ret (r := some (.int ((-1)))) rfl ⟨rfl, rfl⟩
def f195_isIn (p0 : Int64) (p1 : Int64) (p2 : Int64) (Z : mjZt) : Option Int32 :=
  if mjCmp .lt (lg_cmp p0 p1) 0 = true then
    some 0
  else
    if mjCmp .gt (lg_cmp p0 p2) 0 = true then
      some 0
    else
      some 1
theorem f195_isIn_ok {p0 : Int64} {p1 : Int64} {p2 : Int64} {Z : mjZt} {v9 : Int32} (h : f195_isIn p0 p1 p2 Z = some v9) : pG 195 0 (mjEnt [.long p0, .long p1, .long p2] (mjML 195)) [] (mjTo Z) (fun r M1 => r = some (.int v9) ∧ M1 = mjTo Z) := by
  unfold f195_isIn at h
  show pG 195 0 [some (.long p0), none, some (.long p1), none, some (.long p2), none] [] (mjTo Z) _
  refine pG_many 3 (pc1 := 3) (L1 := [some (.long p0), none, some (.long p1), none, some (.long p2), none]) (st1 := [.int (lg_cmp p0 p1)]) (M1 := mjTo Z) rfl ?_
  by_cases hc101 : mjCmp .lt (lg_cmp p0 p1) 0 = true
  · rw [if_pos hc101] at h
    refine pG_ift (t := 17) rfl rfl hc101 ?_
    refine pG_many 1 (pc1 := 18) (L1 := [some (.long p0), none, some (.long p1), none, some (.long p2), none]) (st1 := [.int 0]) (M1 := mjTo Z) rfl ?_
    simp only [Option.some.injEq] at h
    subst h
    exact pG_ret (r := some (.int 0)) rfl ⟨rfl, rfl⟩
  · rw [if_neg hc101] at h
    refine pG_iff (t := 17) rfl rfl hc101 ?_
    refine pG_many 3 (pc1 := 10) (L1 := [some (.long p0), none, some (.long p1), none, some (.long p2), none]) (st1 := [.int (lg_cmp p0 p2)]) (M1 := mjTo Z) rfl ?_
    by_cases hc102 : mjCmp .gt (lg_cmp p0 p2) 0 = true
    · rw [if_pos hc102] at h
      refine pG_ift (t := 17) rfl rfl hc102 ?_
      refine pG_many 1 (pc1 := 18) (L1 := [some (.long p0), none, some (.long p1), none, some (.long p2), none]) (st1 := [.int 0]) (M1 := mjTo Z) rfl ?_
      simp only [Option.some.injEq] at h
      subst h
      exact pG_ret (r := some (.int 0)) rfl ⟨rfl, rfl⟩
    · rw [if_neg hc102] at h
      refine pG_iff (t := 17) rfl rfl hc102 ?_
      refine pG_many 2 (pc1 := 18) (L1 := [some (.long p0), none, some (.long p1), none, some (.long p2), none]) (st1 := [.int 1]) (M1 := mjTo Z) rfl ?_
      simp only [Option.some.injEq] at h
      subst h
      exact pG_ret (r := some (.int 1)) rfl ⟨rfl, rfl⟩
def f196_truth (p0 : Int32) (Z : mjZt) : Option Int32 :=
  if mjCmp .eq p0 0 = true then
    some 0
  else
    some 1
theorem f196_truth_ok {p0 : Int32} {Z : mjZt} {v9 : Int32} (h : f196_truth p0 Z = some v9) : pG 196 0 (mjEnt [.int p0] (mjML 196)) [] (mjTo Z) (fun r M1 => r = some (.int v9) ∧ M1 = mjTo Z) := by
  unfold f196_truth at h
  show pG 196 0 [some (.int p0)] [] (mjTo Z) _
  refine pG_many 1 (pc1 := 1) (L1 := [some (.int p0)]) (st1 := [.int p0]) (M1 := mjTo Z) rfl ?_
  by_cases hc101 : mjCmp .eq p0 0 = true
  · rw [if_pos hc101] at h
    refine pG_ift (t := 8) rfl rfl hc101 ?_
    refine pG_many 1 (pc1 := 9) (L1 := [some (.int p0)]) (st1 := [.int 0]) (M1 := mjTo Z) rfl ?_
    simp only [Option.some.injEq] at h
    subst h
    exact pG_ret (r := some (.int 0)) rfl ⟨rfl, rfl⟩
  · rw [if_neg hc101] at h
    refine pG_iff (t := 8) rfl rfl hc101 ?_
    refine pG_many 2 (pc1 := 9) (L1 := [some (.int p0)]) (st1 := [.int 1]) (M1 := mjTo Z) rfl ?_
    simp only [Option.some.injEq] at h
    subst h
    exact pG_ret (r := some (.int 1)) rfl ⟨rfl, rfl⟩
def f197_holds1 (p0 : Int32) (p1 : Int32) (Z : mjZt) : Option Int32 :=
  if mjCmp .ne (((p0 : Int32) >>> ((p1 : Int32) &&& 31)) &&& 1) 1 = true then
    some 0
  else
    some 1
theorem f197_holds1_ok {p0 : Int32} {p1 : Int32} {Z : mjZt} {v9 : Int32} (h : f197_holds1 p0 p1 Z = some v9) : pG 197 0 (mjEnt [.int p0, .int p1] (mjML 197)) [] (mjTo Z) (fun r M1 => r = some (.int v9) ∧ M1 = mjTo Z) := by
  unfold f197_holds1 at h
  show pG 197 0 [some (.int p0), some (.int p1)] [] (mjTo Z) _
  refine pG_many 6 (pc1 := 6) (L1 := [some (.int p0), some (.int p1)]) (st1 := [.int 1, .int (((p0 : Int32) >>> ((p1 : Int32) &&& 31)) &&& 1)]) (M1 := mjTo Z) rfl ?_
  by_cases hc101 : mjCmp .ne (((p0 : Int32) >>> ((p1 : Int32) &&& 31)) &&& 1) 1 = true
  · rw [if_pos hc101] at h
    refine pG_cmt (t := 13) rfl rfl hc101 ?_
    refine pG_many 1 (pc1 := 14) (L1 := [some (.int p0), some (.int p1)]) (st1 := [.int 0]) (M1 := mjTo Z) rfl ?_
    simp only [Option.some.injEq] at h
    subst h
    exact pG_ret (r := some (.int 0)) rfl ⟨rfl, rfl⟩
  · rw [if_neg hc101] at h
    refine pG_cmf (t := 13) rfl rfl hc101 ?_
    refine pG_many 2 (pc1 := 14) (L1 := [some (.int p0), some (.int p1)]) (st1 := [.int 1]) (M1 := mjTo Z) rfl ?_
    simp only [Option.some.injEq] at h
    subst h
    exact pG_ret (r := some (.int 1)) rfl ⟨rfl, rfl⟩
def f198_four_h3 : Nat → Int32 → Int32 → mjZt → Option (Unit × mjZt)
  | 0, _, _, _ => none
  | n + 1, x1, x2, Z =>
    if mjCmp .lt x2 0 = true then
      some ((), Z)
    else
      if mjIn (Z.1 211 1) 700 = true then
      mjLet (zSi Z 212 (mjIx (Z.1 211 1)) (((x1 : Int32) >>> ((x2 : Int32) &&& 31)) &&& 255)) fun Z103 =>
      mjLet (zSi Z103 211 1 ((Z103.1 211 1) + 1)) fun Z104 =>
      f198_four_h3 n x1 (x2 + (-8)) Z104
      else none
theorem f198_four_h3_ok : ∀ (n : Nat) (x1 : Int32) (x2 : Int32) (Z : mjZt) (v9 : Unit) (Z9 : mjZt), f198_four_h3 n x1 x2 Z = some (v9, Z9) → pG 198 3 [some (.ref 211), some (.int x1), some (.int x2)] [] (mjTo Z) (fun r M1 => r = none ∧ M1 = mjTo Z9)
  | 0, x1, x2, Z, v9, Z9, h => by rw [f198_four_h3] at h; cases h
  | n + 1, x1, x2, Z, v9, Z9, h => by
      rw [f198_four_h3] at h
      refine pG_many 1 (pc1 := 4) (L1 := [some (.ref 211), some (.int x1), some (.int x2)]) (st1 := [.int x2]) (M1 := mjTo Z) rfl ?_
      by_cases hc101 : mjCmp .lt x2 0 = true
      · rw [if_pos hc101] at h
        refine pG_ift (t := 39) rfl rfl hc101 ?_
        simp only [Option.some.injEq, Prod.mk.injEq] at h
        obtain ⟨-, rfl⟩ := h
        exact pG_ret (r := none) rfl ⟨rfl, rfl⟩
      · rw [if_neg hc101] at h
        refine pG_iff (t := 39) rfl rfl hc101 ?_
        refine pG_many 1 (pc1 := 8) (L1 := [some (.ref 211), some (.int x1), some (.int x2)]) (st1 := [.ref 211]) (M1 := mjTo Z) rfl ?_
        refine pG_getR (ci := 12) (f := 0) (b := 212) rfl rfl rfl (by rfl) rfl ?_
        refine pG_many 1 (pc1 := 12) (L1 := [some (.ref 211), some (.int x1), some (.int x2)]) (st1 := [.ref 211, .ref 212]) (M1 := mjTo Z) rfl ?_
        refine pG_getI (ci := 12) (f := 1) rfl rfl (Or.inl rfl) (by rfl) ?_
        refine pG_many 5 (pc1 := 22) (L1 := [some (.ref 211), some (.int x1), some (.int x2)]) (st1 := [.int (((x1 : Int32) >>> ((x2 : Int32) &&& 31)) &&& 255), .int (Z.1 211 1), .ref 212]) (M1 := mjTo Z) rfl ?_
        have hk102 : mjIn (Z.1 211 1) 700 = true := by
          by_cases q9 : mjIn (Z.1 211 1) 700 = true
          · exact q9
          · rw [if_neg q9] at h; cases h
        rw [if_pos hk102] at h
        refine pG_ias rfl (by rfl) hk102 (?_ : pG 198 23 [some (.ref 211), some (.int x1), some (.int x2)] [] (mjTo (zSi Z 212 (mjIx (Z.1 211 1)) (((x1 : Int32) >>> ((x2 : Int32) &&& 31)) &&& 255))) _)
        rw [mjLet] at h
        generalize zSi Z 212 (mjIx (Z.1 211 1)) (((x1 : Int32) >>> ((x2 : Int32) &&& 31)) &&& 255) = Z103 at h ⊢
        refine pG_many 2 (pc1 := 25) (L1 := [some (.ref 211), some (.int x1), some (.int x2)]) (st1 := [.ref 211, .ref 211]) (M1 := mjTo Z103) rfl ?_
        refine pG_getI (ci := 12) (f := 1) rfl rfl (Or.inl rfl) (by rfl) ?_
        refine pG_many 2 (pc1 := 30) (L1 := [some (.ref 211), some (.int x1), some (.int x2)]) (st1 := [.int ((Z103.1 211 1) + 1), .ref 211]) (M1 := mjTo Z103) rfl ?_
        refine pG_putI (ci := 12) (f := 1) rfl rfl rfl rfl (by rfl) ?_
        rw [mjLet] at h
        generalize zSi Z103 211 1 ((Z103.1 211 1) + 1) = Z104 at h ⊢
        refine pG_many 2 (pc1 := 3) (L1 := [some (.ref 211), some (.int x1), some (.int (x2 + (-8)))]) (st1 := []) (M1 := mjTo Z104) rfl ?_
        exact f198_four_h3_ok n x1 (x2 + (-8)) Z104 v9 Z9 h
def f198_four (p0 : Int32) (Z : mjZt) : Option (Unit × mjZt) :=
  f198_four_h3 mjF p0 24 Z
theorem f198_four_ok {p0 : Int32} {Z : mjZt} {v9 : Unit} {Z9 : mjZt} (h : f198_four p0 Z = some (v9, Z9)) : pG 198 0 (mjEnt [.ref 211, .int p0] (mjML 198)) [] (mjTo Z) (fun r M1 => r = none ∧ M1 = mjTo Z9) := by
  unfold f198_four at h
  show pG 198 0 [some (.ref 211), some (.int p0), none] [] (mjTo Z) _
  refine pG_many 2 (pc1 := 3) (L1 := [some (.ref 211), some (.int p0), some (.int 24)]) (st1 := []) (M1 := mjTo Z) rfl ?_
  exact f198_four_h3_ok mjF p0 24 Z v9 Z9 h
def f199_feed (p0 : Int32) (p1 : Int32) (p2 : Int32) (p3 : Int32) (p4 : Int32) (Z : mjZt) : Option (Int32 × mjZt) :=
  if mjCmp .le ((Z.1 211 1) + 20) 700 = true then
    mjBd (f198_four p0 Z) fun _ Z104 =>
    mjBd (f198_four p1 Z104) fun _ Z107 =>
    mjBd (f198_four p2 Z107) fun _ Z110 =>
    mjBd (f198_four p3 Z110) fun _ Z113 =>
    mjBd (f198_four p4 Z113) fun _ Z116 =>
    some (Z116.1 211 1, Z116)
  else
    some ((-1), Z)
theorem f199_feed_ok {p0 : Int32} {p1 : Int32} {p2 : Int32} {p3 : Int32} {p4 : Int32} {Z : mjZt} {v9 : Int32} {Z9 : mjZt} (h : f199_feed p0 p1 p2 p3 p4 Z = some (v9, Z9)) : pG 199 0 (mjEnt [.ref 211, .int p0, .int p1, .int p2, .int p3, .int p4] (mjML 199)) [] (mjTo Z) (fun r M1 => r = some (.int v9) ∧ M1 = mjTo Z9) := by
  unfold f199_feed at h
  show pG 199 0 [some (.ref 211), some (.int p0), some (.int p1), some (.int p2), some (.int p3), some (.int p4)] [] (mjTo Z) _
  refine pG_many 1 (pc1 := 1) (L1 := [some (.ref 211), some (.int p0), some (.int p1), some (.int p2), some (.int p3), some (.int p4)]) (st1 := [.ref 211]) (M1 := mjTo Z) rfl ?_
  refine pG_getI (ci := 12) (f := 1) rfl rfl (Or.inl rfl) (by rfl) ?_
  refine pG_many 3 (pc1 := 10) (L1 := [some (.ref 211), some (.int p0), some (.int p1), some (.int p2), some (.int p3), some (.int p4)]) (st1 := [.int 700, .int ((Z.1 211 1) + 20)]) (M1 := mjTo Z) rfl ?_
  by_cases hc101 : mjCmp .le ((Z.1 211 1) + 20) 700 = true
  · rw [if_pos hc101] at h
    refine pG_cmt (t := 15) rfl rfl hc101 ?_
    refine pG_many 2 (pc1 := 17) (L1 := [some (.ref 211), some (.int p0), some (.int p1), some (.int p2), some (.int p3), some (.int p4)]) (st1 := [.int p0, .ref 211]) (M1 := mjTo Z) rfl ?_
    cases hq102 : f198_four p0 Z with
    | none => rw [hq102] at h; cases h
    | some w =>
      obtain ⟨v103, Z104⟩ := w
      rw [hq102, mjBd_some] at h
      refine pG_callV (k2 := 198) (As := [.ref 211, .int p0]) (rest := []) rfl rfl rfl rfl rfl (by rfl) (by decide) (f198_four_ok hq102) ?_
      rintro r9 M9 ⟨rfl, rfl⟩
      show pG 199 20 [some (.ref 211), some (.int p0), some (.int p1), some (.int p2), some (.int p3), some (.int p4)] [] (mjTo Z104) _
      refine pG_many 2 (pc1 := 22) (L1 := [some (.ref 211), some (.int p0), some (.int p1), some (.int p2), some (.int p3), some (.int p4)]) (st1 := [.int p1, .ref 211]) (M1 := mjTo Z104) rfl ?_
      cases hq105 : f198_four p1 Z104 with
      | none => rw [hq105] at h; cases h
      | some w =>
        obtain ⟨v106, Z107⟩ := w
        rw [hq105, mjBd_some] at h
        refine pG_callV (k2 := 198) (As := [.ref 211, .int p1]) (rest := []) rfl rfl rfl rfl rfl (by rfl) (by decide) (f198_four_ok hq105) ?_
        rintro r9 M9 ⟨rfl, rfl⟩
        show pG 199 25 [some (.ref 211), some (.int p0), some (.int p1), some (.int p2), some (.int p3), some (.int p4)] [] (mjTo Z107) _
        refine pG_many 2 (pc1 := 27) (L1 := [some (.ref 211), some (.int p0), some (.int p1), some (.int p2), some (.int p3), some (.int p4)]) (st1 := [.int p2, .ref 211]) (M1 := mjTo Z107) rfl ?_
        cases hq108 : f198_four p2 Z107 with
        | none => rw [hq108] at h; cases h
        | some w =>
          obtain ⟨v109, Z110⟩ := w
          rw [hq108, mjBd_some] at h
          refine pG_callV (k2 := 198) (As := [.ref 211, .int p2]) (rest := []) rfl rfl rfl rfl rfl (by rfl) (by decide) (f198_four_ok hq108) ?_
          rintro r9 M9 ⟨rfl, rfl⟩
          show pG 199 30 [some (.ref 211), some (.int p0), some (.int p1), some (.int p2), some (.int p3), some (.int p4)] [] (mjTo Z110) _
          refine pG_many 2 (pc1 := 33) (L1 := [some (.ref 211), some (.int p0), some (.int p1), some (.int p2), some (.int p3), some (.int p4)]) (st1 := [.int p3, .ref 211]) (M1 := mjTo Z110) rfl ?_
          cases hq111 : f198_four p3 Z110 with
          | none => rw [hq111] at h; cases h
          | some w =>
            obtain ⟨v112, Z113⟩ := w
            rw [hq111, mjBd_some] at h
            refine pG_callV (k2 := 198) (As := [.ref 211, .int p3]) (rest := []) rfl rfl rfl rfl rfl (by rfl) (by decide) (f198_four_ok hq111) ?_
            rintro r9 M9 ⟨rfl, rfl⟩
            show pG 199 36 [some (.ref 211), some (.int p0), some (.int p1), some (.int p2), some (.int p3), some (.int p4)] [] (mjTo Z113) _
            refine pG_many 2 (pc1 := 39) (L1 := [some (.ref 211), some (.int p0), some (.int p1), some (.int p2), some (.int p3), some (.int p4)]) (st1 := [.int p4, .ref 211]) (M1 := mjTo Z113) rfl ?_
            cases hq114 : f198_four p4 Z113 with
            | none => rw [hq114] at h; cases h
            | some w =>
              obtain ⟨v115, Z116⟩ := w
              rw [hq114, mjBd_some] at h
              refine pG_callV (k2 := 198) (As := [.ref 211, .int p4]) (rest := []) rfl rfl rfl rfl rfl (by rfl) (by decide) (f198_four_ok hq114) ?_
              rintro r9 M9 ⟨rfl, rfl⟩
              show pG 199 42 [some (.ref 211), some (.int p0), some (.int p1), some (.int p2), some (.int p3), some (.int p4)] [] (mjTo Z116) _
              refine pG_many 1 (pc1 := 43) (L1 := [some (.ref 211), some (.int p0), some (.int p1), some (.int p2), some (.int p3), some (.int p4)]) (st1 := [.ref 211]) (M1 := mjTo Z116) rfl ?_
              refine pG_getI (ci := 12) (f := 1) rfl rfl (Or.inl rfl) (by rfl) ?_
              simp only [Option.some.injEq, Prod.mk.injEq] at h
              obtain ⟨rfl, rfl⟩ := h
              exact pG_ret (r := some (.int (Z116.1 211 1))) rfl ⟨rfl, rfl⟩
  · rw [if_neg hc101] at h
    refine pG_cmf (t := 15) rfl rfl hc101 ?_
    refine pG_many 1 (pc1 := 14) (L1 := [some (.ref 211), some (.int p0), some (.int p1), some (.int p2), some (.int p3), some (.int p4)]) (st1 := [.int ((-1))]) (M1 := mjTo Z) rfl ?_
    simp only [Option.some.injEq, Prod.mk.injEq] at h
    obtain ⟨rfl, rfl⟩ := h
    exact pG_ret (r := some (.int ((-1)))) rfl ⟨rfl, rfl⟩
def f200_end (p0 : Int32) (Z : mjZt) : Option (Int32 × mjZt) :=
  mjBp (f195_isIn (Int32.toInt64 p0) 0 (Int32.toInt64 (Z.1 211 1)) Z) fun v102 =>
  if mjCmp .ne v102 0 = true then
    mjLet (zSi Z 211 1 p0) fun Z105 =>
    some (p0, Z105)
  else
    some ((-1), Z)
theorem f200_end_ok {p0 : Int32} {Z : mjZt} {v9 : Int32} {Z9 : mjZt} (h : f200_end p0 Z = some (v9, Z9)) : pG 200 0 (mjEnt [.ref 211, .int p0] (mjML 200)) [] (mjTo Z) (fun r M1 => r = some (.int v9) ∧ M1 = mjTo Z9) := by
  unfold f200_end at h
  show pG 200 0 [some (.ref 211), some (.int p0)] [] (mjTo Z) _
  refine pG_many 4 (pc1 := 4) (L1 := [some (.ref 211), some (.int p0)]) (st1 := [.ref 211, .long 0, .long (Int32.toInt64 p0)]) (M1 := mjTo Z) rfl ?_
  refine pG_getI (ci := 12) (f := 1) rfl rfl (Or.inl rfl) (by rfl) ?_
  refine pG_many 1 (pc1 := 8) (L1 := [some (.ref 211), some (.int p0)]) (st1 := [.long (Int32.toInt64 (Z.1 211 1)), .long 0, .long (Int32.toInt64 p0)]) (M1 := mjTo Z) rfl ?_
  cases hq101 : f195_isIn (Int32.toInt64 p0) 0 (Int32.toInt64 (Z.1 211 1)) Z with
  | none => rw [hq101] at h; cases h
  | some v102 =>
    rw [hq101, mjBp_some] at h
    refine pG_call (k2 := 195) (As := [.long (Int32.toInt64 p0), .long 0, .long (Int32.toInt64 (Z.1 211 1))]) (rest := []) rfl (by decide) (f195_isIn_ok hq101) ?_
    rintro r9 M9 ⟨rfl, rfl⟩
    show pG 200 11 [some (.ref 211), some (.int p0)] [.int v102] (mjTo Z) _
    by_cases hc104 : mjCmp .ne v102 0 = true
    · rw [if_pos hc104] at h
      refine pG_ift (t := 16) rfl rfl hc104 ?_
      refine pG_many 2 (pc1 := 18) (L1 := [some (.ref 211), some (.int p0)]) (st1 := [.int p0, .ref 211]) (M1 := mjTo Z) rfl ?_
      refine pG_putI (ci := 12) (f := 1) rfl rfl rfl rfl (by rfl) ?_
      rw [mjLet] at h
      generalize zSi Z 211 1 p0 = Z105 at h ⊢
      refine pG_many 1 (pc1 := 22) (L1 := [some (.ref 211), some (.int p0)]) (st1 := [.int p0]) (M1 := mjTo Z105) rfl ?_
      simp only [Option.some.injEq, Prod.mk.injEq] at h
      obtain ⟨rfl, rfl⟩ := h
      exact pG_ret (r := some (.int p0)) rfl ⟨rfl, rfl⟩
    · rw [if_neg hc104] at h
      refine pG_iff (t := 16) rfl rfl hc104 ?_
      refine pG_many 1 (pc1 := 15) (L1 := [some (.ref 211), some (.int p0)]) (st1 := [.int ((-1))]) (M1 := mjTo Z) rfl ?_
      simp only [Option.some.injEq, Prod.mk.injEq] at h
      obtain ⟨rfl, rfl⟩ := h
      exact pG_ret (r := some (.int ((-1)))) rfl ⟨rfl, rfl⟩
def f201_here (p0 : Int32) (Z : mjZt) : Option Int32 :=
  if mjCmp .ge ((Z.1 211 5) + p0) (Z.1 211 4) = true then
    some ((-1))
  else
    if mjIn ((Z.1 211 5) + p0) 700 = true then
    some (Z.1 212 (mjIx ((Z.1 211 5) + p0)))
    else none
theorem f201_here_ok {p0 : Int32} {Z : mjZt} {v9 : Int32} (h : f201_here p0 Z = some v9) : pG 201 0 (mjEnt [.ref 211, .int p0] (mjML 201)) [] (mjTo Z) (fun r M1 => r = some (.int v9) ∧ M1 = mjTo Z) := by
  unfold f201_here at h
  show pG 201 0 [some (.ref 211), some (.int p0)] [] (mjTo Z) _
  refine pG_many 1 (pc1 := 1) (L1 := [some (.ref 211), some (.int p0)]) (st1 := [.ref 211]) (M1 := mjTo Z) rfl ?_
  refine pG_getI (ci := 12) (f := 5) rfl rfl (Or.inl rfl) (by rfl) ?_
  refine pG_many 3 (pc1 := 7) (L1 := [some (.ref 211), some (.int p0)]) (st1 := [.ref 211, .int ((Z.1 211 5) + p0)]) (M1 := mjTo Z) rfl ?_
  refine pG_getI (ci := 12) (f := 4) rfl rfl (Or.inl rfl) (by rfl) ?_
  by_cases hc101 : mjCmp .ge ((Z.1 211 5) + p0) (Z.1 211 4) = true
  · rw [if_pos hc101] at h
    refine pG_cmt (t := 27) rfl rfl hc101 ?_
    refine pG_many 1 (pc1 := 28) (L1 := [some (.ref 211), some (.int p0)]) (st1 := [.int ((-1))]) (M1 := mjTo Z) rfl ?_
    simp only [Option.some.injEq] at h
    subst h
    exact pG_ret (r := some (.int ((-1)))) rfl ⟨rfl, rfl⟩
  · rw [if_neg hc101] at h
    refine pG_cmf (t := 27) rfl rfl hc101 ?_
    refine pG_many 1 (pc1 := 14) (L1 := [some (.ref 211), some (.int p0)]) (st1 := [.ref 211]) (M1 := mjTo Z) rfl ?_
    refine pG_getR (ci := 12) (f := 0) (b := 212) rfl rfl rfl (by rfl) rfl ?_
    refine pG_many 1 (pc1 := 18) (L1 := [some (.ref 211), some (.int p0)]) (st1 := [.ref 211, .ref 212]) (M1 := mjTo Z) rfl ?_
    refine pG_getI (ci := 12) (f := 5) rfl rfl (Or.inl rfl) (by rfl) ?_
    refine pG_many 2 (pc1 := 23) (L1 := [some (.ref 211), some (.int p0)]) (st1 := [.int ((Z.1 211 5) + p0), .ref 212]) (M1 := mjTo Z) rfl ?_
    have hk102 : mjIn ((Z.1 211 5) + p0) 700 = true := by
      by_cases q9 : mjIn ((Z.1 211 5) + p0) 700 = true
      · exact q9
      · rw [if_neg q9] at h; cases h
    rw [if_pos hk102] at h
    refine pG_ial rfl (by rfl) hk102 ?_
    refine pG_many 1 (pc1 := 28) (L1 := [some (.ref 211), some (.int p0)]) (st1 := [.int (Z.1 212 (mjIx ((Z.1 211 5) + p0)))]) (M1 := mjTo Z) rfl ?_
    simp only [Option.some.injEq] at h
    subst h
    exact pG_ret (r := some (.int (Z.1 212 (mjIx ((Z.1 211 5) + p0))))) rfl ⟨rfl, rfl⟩
def f202_isLetter (p0 : Int32) (Z : mjZt) : Option Int32 :=
  if mjCmp .lt p0 97 = true then
    some 0
  else
    if mjCmp .gt p0 122 = true then
      some 0
    else
      some 1
theorem f202_isLetter_ok {p0 : Int32} {Z : mjZt} {v9 : Int32} (h : f202_isLetter p0 Z = some v9) : pG 202 0 (mjEnt [.int p0] (mjML 202)) [] (mjTo Z) (fun r M1 => r = some (.int v9) ∧ M1 = mjTo Z) := by
  unfold f202_isLetter at h
  show pG 202 0 [some (.int p0)] [] (mjTo Z) _
  refine pG_many 2 (pc1 := 3) (L1 := [some (.int p0)]) (st1 := [.int 97, .int p0]) (M1 := mjTo Z) rfl ?_
  by_cases hc101 : mjCmp .lt p0 97 = true
  · rw [if_pos hc101] at h
    refine pG_cmt (t := 16) rfl rfl hc101 ?_
    refine pG_many 1 (pc1 := 17) (L1 := [some (.int p0)]) (st1 := [.int 0]) (M1 := mjTo Z) rfl ?_
    simp only [Option.some.injEq] at h
    subst h
    exact pG_ret (r := some (.int 0)) rfl ⟨rfl, rfl⟩
  · rw [if_neg hc101] at h
    refine pG_cmf (t := 16) rfl rfl hc101 ?_
    refine pG_many 2 (pc1 := 9) (L1 := [some (.int p0)]) (st1 := [.int 122, .int p0]) (M1 := mjTo Z) rfl ?_
    by_cases hc102 : mjCmp .gt p0 122 = true
    · rw [if_pos hc102] at h
      refine pG_cmt (t := 16) rfl rfl hc102 ?_
      refine pG_many 1 (pc1 := 17) (L1 := [some (.int p0)]) (st1 := [.int 0]) (M1 := mjTo Z) rfl ?_
      simp only [Option.some.injEq] at h
      subst h
      exact pG_ret (r := some (.int 0)) rfl ⟨rfl, rfl⟩
    · rw [if_neg hc102] at h
      refine pG_cmf (t := 16) rfl rfl hc102 ?_
      refine pG_many 2 (pc1 := 17) (L1 := [some (.int p0)]) (st1 := [.int 1]) (M1 := mjTo Z) rfl ?_
      simp only [Option.some.injEq] at h
      subst h
      exact pG_ret (r := some (.int 1)) rfl ⟨rfl, rfl⟩
def f203_isDigit (p0 : Int32) (Z : mjZt) : Option Int32 :=
  if mjCmp .lt p0 48 = true then
    some 0
  else
    if mjCmp .gt p0 57 = true then
      some 0
    else
      some 1
theorem f203_isDigit_ok {p0 : Int32} {Z : mjZt} {v9 : Int32} (h : f203_isDigit p0 Z = some v9) : pG 203 0 (mjEnt [.int p0] (mjML 203)) [] (mjTo Z) (fun r M1 => r = some (.int v9) ∧ M1 = mjTo Z) := by
  unfold f203_isDigit at h
  show pG 203 0 [some (.int p0)] [] (mjTo Z) _
  refine pG_many 2 (pc1 := 3) (L1 := [some (.int p0)]) (st1 := [.int 48, .int p0]) (M1 := mjTo Z) rfl ?_
  by_cases hc101 : mjCmp .lt p0 48 = true
  · rw [if_pos hc101] at h
    refine pG_cmt (t := 16) rfl rfl hc101 ?_
    refine pG_many 1 (pc1 := 17) (L1 := [some (.int p0)]) (st1 := [.int 0]) (M1 := mjTo Z) rfl ?_
    simp only [Option.some.injEq] at h
    subst h
    exact pG_ret (r := some (.int 0)) rfl ⟨rfl, rfl⟩
  · rw [if_neg hc101] at h
    refine pG_cmf (t := 16) rfl rfl hc101 ?_
    refine pG_many 2 (pc1 := 9) (L1 := [some (.int p0)]) (st1 := [.int 57, .int p0]) (M1 := mjTo Z) rfl ?_
    by_cases hc102 : mjCmp .gt p0 57 = true
    · rw [if_pos hc102] at h
      refine pG_cmt (t := 16) rfl rfl hc102 ?_
      refine pG_many 1 (pc1 := 17) (L1 := [some (.int p0)]) (st1 := [.int 0]) (M1 := mjTo Z) rfl ?_
      simp only [Option.some.injEq] at h
      subst h
      exact pG_ret (r := some (.int 0)) rfl ⟨rfl, rfl⟩
    · rw [if_neg hc102] at h
      refine pG_cmf (t := 16) rfl rfl hc102 ?_
      refine pG_many 2 (pc1 := 17) (L1 := [some (.int p0)]) (st1 := [.int 1]) (M1 := mjTo Z) rfl ?_
      simp only [Option.some.injEq] at h
      subst h
      exact pG_ret (r := some (.int 1)) rfl ⟨rfl, rfl⟩
def f204_isSign (p0 : Int32) (Z : mjZt) : Option Int32 :=
  if mjCmp .eq p0 59 = true then
    some 1
  else
    if mjCmp .eq p0 43 = true then
      some 1
    else
      if mjCmp .eq p0 45 = true then
        some 1
      else
        if mjCmp .eq p0 42 = true then
          some 1
        else
          if mjCmp .eq p0 40 = true then
            some 1
          else
            if mjCmp .eq p0 41 = true then
              some 1
            else
              if mjCmp .eq p0 123 = true then
                some 1
              else
                if mjCmp .eq p0 125 = true then
                  some 1
                else
                  if mjCmp .eq p0 60 = true then
                    some 1
                  else
                    if mjCmp .eq p0 62 = true then
                      some 1
                    else
                      if mjCmp .ne p0 61 = true then
                        some 0
                      else
                        some 1
theorem f204_isSign_ok {p0 : Int32} {Z : mjZt} {v9 : Int32} (h : f204_isSign p0 Z = some v9) : pG 204 0 (mjEnt [.int p0] (mjML 204)) [] (mjTo Z) (fun r M1 => r = some (.int v9) ∧ M1 = mjTo Z) := by
  unfold f204_isSign at h
  show pG 204 0 [some (.int p0)] [] (mjTo Z) _
  refine pG_many 2 (pc1 := 3) (L1 := [some (.int p0)]) (st1 := [.int 59, .int p0]) (M1 := mjTo Z) rfl ?_
  by_cases hc101 : mjCmp .eq p0 59 = true
  · rw [if_pos hc101] at h
    refine pG_cmt (t := 66) rfl rfl hc101 ?_
    refine pG_many 2 (pc1 := 71) (L1 := [some (.int p0)]) (st1 := [.int 1]) (M1 := mjTo Z) rfl ?_
    simp only [Option.some.injEq] at h
    subst h
    exact pG_ret (r := some (.int 1)) rfl ⟨rfl, rfl⟩
  · rw [if_neg hc101] at h
    refine pG_cmf (t := 66) rfl rfl hc101 ?_
    refine pG_many 2 (pc1 := 9) (L1 := [some (.int p0)]) (st1 := [.int 43, .int p0]) (M1 := mjTo Z) rfl ?_
    by_cases hc102 : mjCmp .eq p0 43 = true
    · rw [if_pos hc102] at h
      refine pG_cmt (t := 66) rfl rfl hc102 ?_
      refine pG_many 2 (pc1 := 71) (L1 := [some (.int p0)]) (st1 := [.int 1]) (M1 := mjTo Z) rfl ?_
      simp only [Option.some.injEq] at h
      subst h
      exact pG_ret (r := some (.int 1)) rfl ⟨rfl, rfl⟩
    · rw [if_neg hc102] at h
      refine pG_cmf (t := 66) rfl rfl hc102 ?_
      refine pG_many 2 (pc1 := 15) (L1 := [some (.int p0)]) (st1 := [.int 45, .int p0]) (M1 := mjTo Z) rfl ?_
      by_cases hc103 : mjCmp .eq p0 45 = true
      · rw [if_pos hc103] at h
        refine pG_cmt (t := 66) rfl rfl hc103 ?_
        refine pG_many 2 (pc1 := 71) (L1 := [some (.int p0)]) (st1 := [.int 1]) (M1 := mjTo Z) rfl ?_
        simp only [Option.some.injEq] at h
        subst h
        exact pG_ret (r := some (.int 1)) rfl ⟨rfl, rfl⟩
      · rw [if_neg hc103] at h
        refine pG_cmf (t := 66) rfl rfl hc103 ?_
        refine pG_many 2 (pc1 := 21) (L1 := [some (.int p0)]) (st1 := [.int 42, .int p0]) (M1 := mjTo Z) rfl ?_
        by_cases hc104 : mjCmp .eq p0 42 = true
        · rw [if_pos hc104] at h
          refine pG_cmt (t := 66) rfl rfl hc104 ?_
          refine pG_many 2 (pc1 := 71) (L1 := [some (.int p0)]) (st1 := [.int 1]) (M1 := mjTo Z) rfl ?_
          simp only [Option.some.injEq] at h
          subst h
          exact pG_ret (r := some (.int 1)) rfl ⟨rfl, rfl⟩
        · rw [if_neg hc104] at h
          refine pG_cmf (t := 66) rfl rfl hc104 ?_
          refine pG_many 2 (pc1 := 27) (L1 := [some (.int p0)]) (st1 := [.int 40, .int p0]) (M1 := mjTo Z) rfl ?_
          by_cases hc105 : mjCmp .eq p0 40 = true
          · rw [if_pos hc105] at h
            refine pG_cmt (t := 66) rfl rfl hc105 ?_
            refine pG_many 2 (pc1 := 71) (L1 := [some (.int p0)]) (st1 := [.int 1]) (M1 := mjTo Z) rfl ?_
            simp only [Option.some.injEq] at h
            subst h
            exact pG_ret (r := some (.int 1)) rfl ⟨rfl, rfl⟩
          · rw [if_neg hc105] at h
            refine pG_cmf (t := 66) rfl rfl hc105 ?_
            refine pG_many 2 (pc1 := 33) (L1 := [some (.int p0)]) (st1 := [.int 41, .int p0]) (M1 := mjTo Z) rfl ?_
            by_cases hc106 : mjCmp .eq p0 41 = true
            · rw [if_pos hc106] at h
              refine pG_cmt (t := 66) rfl rfl hc106 ?_
              refine pG_many 2 (pc1 := 71) (L1 := [some (.int p0)]) (st1 := [.int 1]) (M1 := mjTo Z) rfl ?_
              simp only [Option.some.injEq] at h
              subst h
              exact pG_ret (r := some (.int 1)) rfl ⟨rfl, rfl⟩
            · rw [if_neg hc106] at h
              refine pG_cmf (t := 66) rfl rfl hc106 ?_
              refine pG_many 2 (pc1 := 39) (L1 := [some (.int p0)]) (st1 := [.int 123, .int p0]) (M1 := mjTo Z) rfl ?_
              by_cases hc107 : mjCmp .eq p0 123 = true
              · rw [if_pos hc107] at h
                refine pG_cmt (t := 66) rfl rfl hc107 ?_
                refine pG_many 2 (pc1 := 71) (L1 := [some (.int p0)]) (st1 := [.int 1]) (M1 := mjTo Z) rfl ?_
                simp only [Option.some.injEq] at h
                subst h
                exact pG_ret (r := some (.int 1)) rfl ⟨rfl, rfl⟩
              · rw [if_neg hc107] at h
                refine pG_cmf (t := 66) rfl rfl hc107 ?_
                refine pG_many 2 (pc1 := 45) (L1 := [some (.int p0)]) (st1 := [.int 125, .int p0]) (M1 := mjTo Z) rfl ?_
                by_cases hc108 : mjCmp .eq p0 125 = true
                · rw [if_pos hc108] at h
                  refine pG_cmt (t := 66) rfl rfl hc108 ?_
                  refine pG_many 2 (pc1 := 71) (L1 := [some (.int p0)]) (st1 := [.int 1]) (M1 := mjTo Z) rfl ?_
                  simp only [Option.some.injEq] at h
                  subst h
                  exact pG_ret (r := some (.int 1)) rfl ⟨rfl, rfl⟩
                · rw [if_neg hc108] at h
                  refine pG_cmf (t := 66) rfl rfl hc108 ?_
                  refine pG_many 2 (pc1 := 51) (L1 := [some (.int p0)]) (st1 := [.int 60, .int p0]) (M1 := mjTo Z) rfl ?_
                  by_cases hc109 : mjCmp .eq p0 60 = true
                  · rw [if_pos hc109] at h
                    refine pG_cmt (t := 66) rfl rfl hc109 ?_
                    refine pG_many 2 (pc1 := 71) (L1 := [some (.int p0)]) (st1 := [.int 1]) (M1 := mjTo Z) rfl ?_
                    simp only [Option.some.injEq] at h
                    subst h
                    exact pG_ret (r := some (.int 1)) rfl ⟨rfl, rfl⟩
                  · rw [if_neg hc109] at h
                    refine pG_cmf (t := 66) rfl rfl hc109 ?_
                    refine pG_many 2 (pc1 := 57) (L1 := [some (.int p0)]) (st1 := [.int 62, .int p0]) (M1 := mjTo Z) rfl ?_
                    by_cases hc110 : mjCmp .eq p0 62 = true
                    · rw [if_pos hc110] at h
                      refine pG_cmt (t := 66) rfl rfl hc110 ?_
                      refine pG_many 2 (pc1 := 71) (L1 := [some (.int p0)]) (st1 := [.int 1]) (M1 := mjTo Z) rfl ?_
                      simp only [Option.some.injEq] at h
                      subst h
                      exact pG_ret (r := some (.int 1)) rfl ⟨rfl, rfl⟩
                    · rw [if_neg hc110] at h
                      refine pG_cmf (t := 66) rfl rfl hc110 ?_
                      refine pG_many 2 (pc1 := 63) (L1 := [some (.int p0)]) (st1 := [.int 61, .int p0]) (M1 := mjTo Z) rfl ?_
                      by_cases hc111 : mjCmp .ne p0 61 = true
                      · rw [if_pos hc111] at h
                        refine pG_cmt (t := 70) rfl rfl hc111 ?_
                        refine pG_many 1 (pc1 := 71) (L1 := [some (.int p0)]) (st1 := [.int 0]) (M1 := mjTo Z) rfl ?_
                        simp only [Option.some.injEq] at h
                        subst h
                        exact pG_ret (r := some (.int 0)) rfl ⟨rfl, rfl⟩
                      · rw [if_neg hc111] at h
                        refine pG_cmf (t := 70) rfl rfl hc111 ?_
                        refine pG_many 2 (pc1 := 71) (L1 := [some (.int p0)]) (st1 := [.int 1]) (M1 := mjTo Z) rfl ?_
                        simp only [Option.some.injEq] at h
                        subst h
                        exact pG_ret (r := some (.int 1)) rfl ⟨rfl, rfl⟩
