def f116_takeNumber (p0 : Int32) (p1 : Int32) (Z : mjZt) : Option (Int32 × mjZt) :=
  if mjCmp .eq (Z.1 183 3) 2 = true then
    if mjCmp .lt (Z.1 183 5) p0 = true then
      mjBd (f114_fail 4 Z) fun v104 Z105 =>
      if v104 = 0 ∨ v104 = 1 then
      some (v104, Z105)
      else none
    else
      if mjCmp .le (Z.1 183 5) p1 = true then
        mjLet (zSi Z 182 4 (Z.1 183 5)) fun Z108 =>
        mjBd (f68_advance  Z108) fun _ Z111 =>
        some (1, Z111)
      else
        mjBd (f114_fail 4 Z) fun v113 Z114 =>
        if v113 = 0 ∨ v113 = 1 then
        some (v113, Z114)
        else none
  else
    mjBd (f114_fail 2 Z) fun v117 Z118 =>
    if v117 = 0 ∨ v117 = 1 then
    some (v117, Z118)
    else none
theorem f116_takeNumber_ok {p0 : Int32} {p1 : Int32} {Z : mjZt} {v9 : Int32} {Z9 : mjZt} (h : f116_takeNumber p0 p1 Z = some (v9, Z9)) : pG 106 0 (mjEnt [.ref 182, .int p0, .int p1] (mjML 106)) [] (mjTo Z) (fun r M1 => r = some (.int v9) ∧ M1 = mjTo Z9) := by
  unfold f116_takeNumber at h
  show pG 106 0 [some (.ref 182), some (.int p0), some (.int p1)] [] (mjTo Z) _
  refine pG_many 1 (pc1 := 1) (L1 := [some (.ref 182), some (.int p0), some (.int p1)]) (st1 := [.ref 182]) (M1 := mjTo Z) (fun _ _ => rfl) ?_
  refine pG_getR (ci := 6) (f := 0) (b := 183) rfl rfl rfl (by rfl) (by decide) rfl ?_
  refine pG_getI (ci := 9) (f := 3) rfl rfl (Or.inl rfl) (by rfl) (by decide) ?_
  refine pG_many 1 (pc1 := 8) (L1 := [some (.ref 182), some (.int p0), some (.int p1)]) (st1 := [.int 2, .int (Z.1 183 3)]) (M1 := mjTo Z) (fun _ _ => rfl) ?_
  by_cases hc101 : mjCmp .eq (Z.1 183 3) 2 = true
  · rw [if_pos hc101] at h
    refine pG_cmt (t := 17) rfl rfl hc101 ?_
    refine pG_many 1 (pc1 := 18) (L1 := [some (.ref 182), some (.int p0), some (.int p1)]) (st1 := [.ref 182]) (M1 := mjTo Z) (fun _ _ => rfl) ?_
    refine pG_getR (ci := 6) (f := 0) (b := 183) rfl rfl rfl (by rfl) (by decide) rfl ?_
    refine pG_getI (ci := 9) (f := 5) rfl rfl (Or.inl rfl) (by rfl) (by decide) ?_
    refine pG_many 1 (pc1 := 25) (L1 := [some (.ref 182), some (.int p0), some (.int p1)]) (st1 := [.int p0, .int (Z.1 183 5)]) (M1 := mjTo Z) (fun _ _ => rfl) ?_
    by_cases hc102 : mjCmp .lt (Z.1 183 5) p0 = true
    · rw [if_pos hc102] at h
      refine pG_cmt (t := 39) rfl rfl hc102 ?_
      refine pG_many 2 (pc1 := 41) (L1 := [some (.ref 182), some (.int p0), some (.int p1)]) (st1 := [.int 4, .ref 182]) (M1 := mjTo Z) (fun _ _ => rfl) ?_
      cases hq103 : f114_fail 4 Z with
      | none => rw [hq103] at h; cases h
      | some w =>
        obtain ⟨v104, Z105⟩ := w
        rw [hq103, mjBd_some] at h
        refine pG_callV (k2 := 104) (As := [.ref 182, .int 4]) (rest := []) rfl rfl rfl rfl rfl (by rfl) (by decide) (by decide) (f114_fail_ok hq103) ?_
        rintro r9 M9 ⟨rfl, rfl⟩
        show pG 106 44 [some (.ref 182), some (.int p0), some (.int p1)] [.int v104] (mjTo Z105) _
        have hk106 : v104 = 0 ∨ v104 = 1 := by
          by_cases q9 : v104 = 0 ∨ v104 = 1
          · exact q9
          · rw [if_neg q9] at h; cases h
        rw [if_pos hk106] at h
        simp only [Option.some.injEq, Prod.mk.injEq] at h
        obtain ⟨rfl, rfl⟩ := h
        exact pG_ret (r := some (.int v104)) (mjRt1_z rfl rfl hk106) ⟨rfl, rfl⟩
    · rw [if_neg hc102] at h
      refine pG_cmf (t := 39) rfl rfl hc102 ?_
      refine pG_many 1 (pc1 := 29) (L1 := [some (.ref 182), some (.int p0), some (.int p1)]) (st1 := [.ref 182]) (M1 := mjTo Z) (fun _ _ => rfl) ?_
      refine pG_getR (ci := 6) (f := 0) (b := 183) rfl rfl rfl (by rfl) (by decide) rfl ?_
      refine pG_getI (ci := 9) (f := 5) rfl rfl (Or.inl rfl) (by rfl) (by decide) ?_
      refine pG_many 1 (pc1 := 36) (L1 := [some (.ref 182), some (.int p0), some (.int p1)]) (st1 := [.int p1, .int (Z.1 183 5)]) (M1 := mjTo Z) (fun _ _ => rfl) ?_
      by_cases hc107 : mjCmp .le (Z.1 183 5) p1 = true
      · rw [if_pos hc107] at h
        refine pG_cmt (t := 45) rfl rfl hc107 ?_
        refine pG_many 2 (pc1 := 47) (L1 := [some (.ref 182), some (.int p0), some (.int p1)]) (st1 := [.ref 182, .ref 182]) (M1 := mjTo Z) (fun _ _ => rfl) ?_
        refine pG_getR (ci := 6) (f := 0) (b := 183) rfl rfl rfl (by rfl) (by decide) rfl ?_
        refine pG_getI (ci := 9) (f := 5) rfl rfl (Or.inl rfl) (by rfl) (by decide) ?_
        refine pG_putI (ci := 6) (f := 4) rfl rfl rfl rfl (by rfl) (by decide) ?_
        rw [mjLet] at h
        generalize zSi Z 182 4 (Z.1 183 5) = Z108 at h ⊢
        refine pG_many 1 (pc1 := 57) (L1 := [some (.ref 182), some (.int p0), some (.int p1)]) (st1 := [.ref 182]) (M1 := mjTo Z108) (fun _ _ => rfl) ?_
        refine pG_getR (ci := 6) (f := 0) (b := 183) rfl rfl rfl (by rfl) (by decide) rfl ?_
        cases hq109 : f68_advance  Z108 with
        | none => rw [hq109] at h; cases h
        | some w =>
          obtain ⟨v110, Z111⟩ := w
          rw [hq109, mjBd_some] at h
          refine pG_callV (k2 := 68) (As := [.ref 183]) (rest := []) rfl rfl rfl rfl rfl (by rfl) (by decide) (by decide) (f68_advance_ok hq109) ?_
          rintro r9 M9 ⟨rfl, rfl⟩
          show pG 106 63 [some (.ref 182), some (.int p0), some (.int p1)] [] (mjTo Z111) _
          refine pG_many 1 (pc1 := 64) (L1 := [some (.ref 182), some (.int p0), some (.int p1)]) (st1 := [.int 1]) (M1 := mjTo Z111) (fun _ _ => rfl) ?_
          simp only [Option.some.injEq, Prod.mk.injEq] at h
          obtain ⟨rfl, rfl⟩ := h
          exact pG_ret (r := some (.int 1)) rfl ⟨rfl, rfl⟩
      · rw [if_neg hc107] at h
        refine pG_cmf (t := 45) rfl rfl hc107 ?_
        refine pG_many 2 (pc1 := 41) (L1 := [some (.ref 182), some (.int p0), some (.int p1)]) (st1 := [.int 4, .ref 182]) (M1 := mjTo Z) (fun _ _ => rfl) ?_
        cases hq112 : f114_fail 4 Z with
        | none => rw [hq112] at h; cases h
        | some w =>
          obtain ⟨v113, Z114⟩ := w
          rw [hq112, mjBd_some] at h
          refine pG_callV (k2 := 104) (As := [.ref 182, .int 4]) (rest := []) rfl rfl rfl rfl rfl (by rfl) (by decide) (by decide) (f114_fail_ok hq112) ?_
          rintro r9 M9 ⟨rfl, rfl⟩
          show pG 106 44 [some (.ref 182), some (.int p0), some (.int p1)] [.int v113] (mjTo Z114) _
          have hk115 : v113 = 0 ∨ v113 = 1 := by
            by_cases q9 : v113 = 0 ∨ v113 = 1
            · exact q9
            · rw [if_neg q9] at h; cases h
          rw [if_pos hk115] at h
          simp only [Option.some.injEq, Prod.mk.injEq] at h
          obtain ⟨rfl, rfl⟩ := h
          exact pG_ret (r := some (.int v113)) (mjRt1_z rfl rfl hk115) ⟨rfl, rfl⟩
  · rw [if_neg hc101] at h
    refine pG_cmf (t := 17) rfl rfl hc101 ?_
    refine pG_many 2 (pc1 := 13) (L1 := [some (.ref 182), some (.int p0), some (.int p1)]) (st1 := [.int 2, .ref 182]) (M1 := mjTo Z) (fun _ _ => rfl) ?_
    cases hq116 : f114_fail 2 Z with
    | none => rw [hq116] at h; cases h
    | some w =>
      obtain ⟨v117, Z118⟩ := w
      rw [hq116, mjBd_some] at h
      refine pG_callV (k2 := 104) (As := [.ref 182, .int 2]) (rest := []) rfl rfl rfl rfl rfl (by rfl) (by decide) (by decide) (f114_fail_ok hq116) ?_
      rintro r9 M9 ⟨rfl, rfl⟩
      show pG 106 16 [some (.ref 182), some (.int p0), some (.int p1)] [.int v117] (mjTo Z118) _
      have hk119 : v117 = 0 ∨ v117 = 1 := by
        by_cases q9 : v117 = 0 ∨ v117 = 1
        · exact q9
        · rw [if_neg q9] at h; cases h
      rw [if_pos hk119] at h
      simp only [Option.some.injEq, Prod.mk.injEq] at h
      obtain ⟨rfl, rfl⟩ := h
      exact pG_ret (r := some (.int v117)) (mjRt1_z rfl rfl hk119) ⟨rfl, rfl⟩
def f117_takeSign (p0 : Int32) (Z : mjZt) : Option (Int32 × mjZt) :=
  if mjCmp .eq (Z.1 183 3) p0 = true then
    mjBd (f68_advance  Z) fun _ Z104 =>
    some (1, Z104)
  else
    mjBd (f114_fail 2 Z) fun v106 Z107 =>
    if v106 = 0 ∨ v106 = 1 then
    some (v106, Z107)
    else none
theorem f117_takeSign_ok {p0 : Int32} {Z : mjZt} {v9 : Int32} {Z9 : mjZt} (h : f117_takeSign p0 Z = some (v9, Z9)) : pG 107 0 (mjEnt [.ref 182, .int p0] (mjML 107)) [] (mjTo Z) (fun r M1 => r = some (.int v9) ∧ M1 = mjTo Z9) := by
  unfold f117_takeSign at h
  show pG 107 0 [some (.ref 182), some (.int p0)] [] (mjTo Z) _
  refine pG_many 1 (pc1 := 1) (L1 := [some (.ref 182), some (.int p0)]) (st1 := [.ref 182]) (M1 := mjTo Z) (fun _ _ => rfl) ?_
  refine pG_getR (ci := 6) (f := 0) (b := 183) rfl rfl rfl (by rfl) (by decide) rfl ?_
  refine pG_getI (ci := 9) (f := 3) rfl rfl (Or.inl rfl) (by rfl) (by decide) ?_
  refine pG_many 1 (pc1 := 8) (L1 := [some (.ref 182), some (.int p0)]) (st1 := [.int p0, .int (Z.1 183 3)]) (M1 := mjTo Z) (fun _ _ => rfl) ?_
  by_cases hc101 : mjCmp .eq (Z.1 183 3) p0 = true
  · rw [if_pos hc101] at h
    refine pG_cmt (t := 17) rfl rfl hc101 ?_
    refine pG_many 1 (pc1 := 18) (L1 := [some (.ref 182), some (.int p0)]) (st1 := [.ref 182]) (M1 := mjTo Z) (fun _ _ => rfl) ?_
    refine pG_getR (ci := 6) (f := 0) (b := 183) rfl rfl rfl (by rfl) (by decide) rfl ?_
    cases hq102 : f68_advance  Z with
    | none => rw [hq102] at h; cases h
    | some w =>
      obtain ⟨v103, Z104⟩ := w
      rw [hq102, mjBd_some] at h
      refine pG_callV (k2 := 68) (As := [.ref 183]) (rest := []) rfl rfl rfl rfl rfl (by rfl) (by decide) (by decide) (f68_advance_ok hq102) ?_
      rintro r9 M9 ⟨rfl, rfl⟩
      show pG 107 24 [some (.ref 182), some (.int p0)] [] (mjTo Z104) _
      refine pG_many 1 (pc1 := 25) (L1 := [some (.ref 182), some (.int p0)]) (st1 := [.int 1]) (M1 := mjTo Z104) (fun _ _ => rfl) ?_
      simp only [Option.some.injEq, Prod.mk.injEq] at h
      obtain ⟨rfl, rfl⟩ := h
      exact pG_ret (r := some (.int 1)) rfl ⟨rfl, rfl⟩
  · rw [if_neg hc101] at h
    refine pG_cmf (t := 17) rfl rfl hc101 ?_
    refine pG_many 2 (pc1 := 13) (L1 := [some (.ref 182), some (.int p0)]) (st1 := [.int 2, .ref 182]) (M1 := mjTo Z) (fun _ _ => rfl) ?_
    cases hq105 : f114_fail 2 Z with
    | none => rw [hq105] at h; cases h
    | some w =>
      obtain ⟨v106, Z107⟩ := w
      rw [hq105, mjBd_some] at h
      refine pG_callV (k2 := 104) (As := [.ref 182, .int 2]) (rest := []) rfl rfl rfl rfl rfl (by rfl) (by decide) (by decide) (f114_fail_ok hq105) ?_
      rintro r9 M9 ⟨rfl, rfl⟩
      show pG 107 16 [some (.ref 182), some (.int p0)] [.int v106] (mjTo Z107) _
      have hk108 : v106 = 0 ∨ v106 = 1 := by
        by_cases q9 : v106 = 0 ∨ v106 = 1
        · exact q9
        · rw [if_neg q9] at h; cases h
      rw [if_pos hk108] at h
      simp only [Option.some.injEq, Prod.mk.injEq] at h
      obtain ⟨rfl, rfl⟩ := h
      exact pG_ret (r := some (.int v106)) (mjRt1_z rfl rfl hk108) ⟨rfl, rfl⟩
def f118_readTrack (p0 : Nat) (Z : mjZt) : Option (Int32 × mjZt) :=
  mjBd (f115_takeWord 1000002 0 Z) fun v102 Z103 =>
  if mjCmp .eq v102 0 = true then
    some (0, Z103)
  else
    mjBd (f116_takeNumber 2 6 Z103) fun v106 Z107 =>
    if mjCmp .ne v106 0 = true then
      if mjIs p0 211 2 = true then
      mjLet (zSi Z107 p0 0 (Z107.1 182 4)) fun Z110 =>
      mjBd (f116_takeNumber 50 400 Z110) fun v112 Z113 =>
      if mjCmp .ne v112 0 = true then
        mjLet (zSi Z113 p0 1 (Z113.1 182 4)) fun Z115 =>
        mjBd (f116_takeNumber 0 20 Z115) fun v117 Z118 =>
        if mjCmp .ne v117 0 = true then
          mjLet (zSi Z118 p0 2 (Z118.1 182 4)) fun Z120 =>
          mjBd (f116_takeNumber 0 20 Z120) fun v122 Z123 =>
          if mjCmp .ne v122 0 = true then
            mjLet (zSi Z123 p0 3 (Z123.1 182 4)) fun Z125 =>
            mjBd (f116_takeNumber 0 (Z125.1 p0 1) Z125) fun v127 Z128 =>
            if mjCmp .ne v127 0 = true then
              mjLet (zSi Z128 p0 4 (Z128.1 182 4)) fun Z130 =>
              mjBd (f117_takeSign 59 Z130) fun v132 Z133 =>
              if v132 = 0 ∨ v132 = 1 then
              some (v132, Z133)
              else none
            else
              some (0, Z128)
          else
            some (0, Z123)
        else
          some (0, Z118)
      else
        some (0, Z113)
      else none
    else
      some (0, Z107)
theorem f118_readTrack_ok {p0 : Nat} {Z : mjZt} {v9 : Int32} {Z9 : mjZt} (h : f118_readTrack p0 Z = some (v9, Z9)) : pG 108 0 (mjEnt [.ref 182, .ref p0] (mjML 108)) [] (mjTo Z) (fun r M1 => r = some (.int v9) ∧ M1 = mjTo Z9) := by
  unfold f118_readTrack at h
  show pG 108 0 [some (.ref 182), some (.ref p0)] [] (mjTo Z) _
  refine pG_many 3 (pc1 := 4) (L1 := [some (.ref 182), some (.ref p0)]) (st1 := [.int 0, .ref 1000002, .ref 182]) (M1 := mjTo Z) (fun _ _ => rfl) ?_
  cases hq101 : f115_takeWord 1000002 0 Z with
  | none => rw [hq101] at h; cases h
  | some w =>
    obtain ⟨v102, Z103⟩ := w
    rw [hq101, mjBd_some] at h
    refine pG_callV (k2 := 105) (As := [.ref 182, .ref 1000002, .int 0]) (rest := []) rfl rfl rfl rfl rfl (by rfl) (by decide) (by decide) (f115_takeWord_ok hq101) ?_
    rintro r9 M9 ⟨rfl, rfl⟩
    show pG 108 7 [some (.ref 182), some (.ref p0)] [.int v102] (mjTo Z103) _
    by_cases hc104 : mjCmp .eq v102 0 = true
    · rw [if_pos hc104] at h
      refine pG_ift (t := 20) rfl rfl hc104 ?_
      refine pG_many 1 (pc1 := 21) (L1 := [some (.ref 182), some (.ref p0)]) (st1 := [.int 0]) (M1 := mjTo Z103) (fun _ _ => rfl) ?_
      simp only [Option.some.injEq, Prod.mk.injEq] at h
      obtain ⟨rfl, rfl⟩ := h
      exact pG_ret (r := some (.int 0)) rfl ⟨rfl, rfl⟩
    · rw [if_neg hc104] at h
      refine pG_iff (t := 20) rfl rfl hc104 ?_
      refine pG_many 3 (pc1 := 14) (L1 := [some (.ref 182), some (.ref p0)]) (st1 := [.int 6, .int 2, .ref 182]) (M1 := mjTo Z103) (fun _ _ => rfl) ?_
      cases hq105 : f116_takeNumber 2 6 Z103 with
      | none => rw [hq105] at h; cases h
      | some w =>
        obtain ⟨v106, Z107⟩ := w
        rw [hq105, mjBd_some] at h
        refine pG_callV (k2 := 106) (As := [.ref 182, .int 2, .int 6]) (rest := []) rfl rfl rfl rfl rfl (by rfl) (by decide) (by decide) (f116_takeNumber_ok hq105) ?_
        rintro r9 M9 ⟨rfl, rfl⟩
        show pG 108 17 [some (.ref 182), some (.ref p0)] [.int v106] (mjTo Z107) _
        by_cases hc108 : mjCmp .ne v106 0 = true
        · rw [if_pos hc108] at h
          refine pG_ift (t := 22) rfl rfl hc108 ?_
          refine pG_many 2 (pc1 := 24) (L1 := [some (.ref 182), some (.ref p0)]) (st1 := [.ref 182, .ref p0]) (M1 := mjTo Z107) (fun _ _ => rfl) ?_
          refine pG_getI (ci := 6) (f := 4) rfl rfl (Or.inl rfl) (by rfl) (by decide) ?_
          have hk109 : mjIs p0 211 2 = true := by
            by_cases q9 : mjIs p0 211 2 = true
            · exact q9
            · rw [if_neg q9] at h; cases h
          rw [if_pos hk109] at h
          refine pG_putI (ci := 2) (f := 0) rfl rfl rfl rfl hk109 (by decide) ?_
          rw [mjLet] at h
          generalize zSi Z107 p0 0 (Z107.1 182 4) = Z110 at h ⊢
          refine pG_many 3 (pc1 := 36) (L1 := [some (.ref 182), some (.ref p0)]) (st1 := [.int 400, .int 50, .ref 182]) (M1 := mjTo Z110) (fun _ _ => rfl) ?_
          cases hq111 : f116_takeNumber 50 400 Z110 with
          | none => rw [hq111] at h; cases h
          | some w =>
            obtain ⟨v112, Z113⟩ := w
            rw [hq111, mjBd_some] at h
            refine pG_callV (k2 := 106) (As := [.ref 182, .int 50, .int 400]) (rest := []) rfl rfl rfl rfl rfl (by rfl) (by decide) (by decide) (f116_takeNumber_ok hq111) ?_
            rintro r9 M9 ⟨rfl, rfl⟩
            show pG 108 39 [some (.ref 182), some (.ref p0)] [.int v112] (mjTo Z113) _
            by_cases hc114 : mjCmp .ne v112 0 = true
            · rw [if_pos hc114] at h
              refine pG_ift (t := 44) rfl rfl hc114 ?_
              refine pG_many 2 (pc1 := 46) (L1 := [some (.ref 182), some (.ref p0)]) (st1 := [.ref 182, .ref p0]) (M1 := mjTo Z113) (fun _ _ => rfl) ?_
              refine pG_getI (ci := 6) (f := 4) rfl rfl (Or.inl rfl) (by rfl) (by decide) ?_
              refine pG_putI (ci := 2) (f := 1) rfl rfl rfl rfl hk109 (by decide) ?_
              rw [mjLet] at h
              generalize zSi Z113 p0 1 (Z113.1 182 4) = Z115 at h ⊢
              refine pG_many 3 (pc1 := 56) (L1 := [some (.ref 182), some (.ref p0)]) (st1 := [.int 20, .int 0, .ref 182]) (M1 := mjTo Z115) (fun _ _ => rfl) ?_
              cases hq116 : f116_takeNumber 0 20 Z115 with
              | none => rw [hq116] at h; cases h
              | some w =>
                obtain ⟨v117, Z118⟩ := w
                rw [hq116, mjBd_some] at h
                refine pG_callV (k2 := 106) (As := [.ref 182, .int 0, .int 20]) (rest := []) rfl rfl rfl rfl rfl (by rfl) (by decide) (by decide) (f116_takeNumber_ok hq116) ?_
                rintro r9 M9 ⟨rfl, rfl⟩
                show pG 108 59 [some (.ref 182), some (.ref p0)] [.int v117] (mjTo Z118) _
                by_cases hc119 : mjCmp .ne v117 0 = true
                · rw [if_pos hc119] at h
                  refine pG_ift (t := 64) rfl rfl hc119 ?_
                  refine pG_many 2 (pc1 := 66) (L1 := [some (.ref 182), some (.ref p0)]) (st1 := [.ref 182, .ref p0]) (M1 := mjTo Z118) (fun _ _ => rfl) ?_
                  refine pG_getI (ci := 6) (f := 4) rfl rfl (Or.inl rfl) (by rfl) (by decide) ?_
                  refine pG_putI (ci := 2) (f := 2) rfl rfl rfl rfl hk109 (by decide) ?_
                  rw [mjLet] at h
                  generalize zSi Z118 p0 2 (Z118.1 182 4) = Z120 at h ⊢
                  refine pG_many 3 (pc1 := 76) (L1 := [some (.ref 182), some (.ref p0)]) (st1 := [.int 20, .int 0, .ref 182]) (M1 := mjTo Z120) (fun _ _ => rfl) ?_
                  cases hq121 : f116_takeNumber 0 20 Z120 with
                  | none => rw [hq121] at h; cases h
                  | some w =>
                    obtain ⟨v122, Z123⟩ := w
                    rw [hq121, mjBd_some] at h
                    refine pG_callV (k2 := 106) (As := [.ref 182, .int 0, .int 20]) (rest := []) rfl rfl rfl rfl rfl (by rfl) (by decide) (by decide) (f116_takeNumber_ok hq121) ?_
                    rintro r9 M9 ⟨rfl, rfl⟩
                    show pG 108 79 [some (.ref 182), some (.ref p0)] [.int v122] (mjTo Z123) _
                    by_cases hc124 : mjCmp .ne v122 0 = true
                    · rw [if_pos hc124] at h
                      refine pG_ift (t := 84) rfl rfl hc124 ?_
                      refine pG_many 2 (pc1 := 86) (L1 := [some (.ref 182), some (.ref p0)]) (st1 := [.ref 182, .ref p0]) (M1 := mjTo Z123) (fun _ _ => rfl) ?_
                      refine pG_getI (ci := 6) (f := 4) rfl rfl (Or.inl rfl) (by rfl) (by decide) ?_
                      refine pG_putI (ci := 2) (f := 3) rfl rfl rfl rfl hk109 (by decide) ?_
                      rw [mjLet] at h
                      generalize zSi Z123 p0 3 (Z123.1 182 4) = Z125 at h ⊢
                      refine pG_many 3 (pc1 := 95) (L1 := [some (.ref 182), some (.ref p0)]) (st1 := [.ref p0, .int 0, .ref 182]) (M1 := mjTo Z125) (fun _ _ => rfl) ?_
                      refine pG_getI (ci := 2) (f := 1) rfl rfl (Or.inl rfl) hk109 (by decide) ?_
                      cases hq126 : f116_takeNumber 0 (Z125.1 p0 1) Z125 with
                      | none => rw [hq126] at h; cases h
                      | some w =>
                        obtain ⟨v127, Z128⟩ := w
                        rw [hq126, mjBd_some] at h
                        refine pG_callV (k2 := 106) (As := [.ref 182, .int 0, .int (Z125.1 p0 1)]) (rest := []) rfl rfl rfl rfl rfl (by rfl) (by decide) (by decide) (f116_takeNumber_ok hq126) ?_
                        rintro r9 M9 ⟨rfl, rfl⟩
                        show pG 108 101 [some (.ref 182), some (.ref p0)] [.int v127] (mjTo Z128) _
                        by_cases hc129 : mjCmp .ne v127 0 = true
                        · rw [if_pos hc129] at h
                          refine pG_ift (t := 106) rfl rfl hc129 ?_
                          refine pG_many 2 (pc1 := 108) (L1 := [some (.ref 182), some (.ref p0)]) (st1 := [.ref 182, .ref p0]) (M1 := mjTo Z128) (fun _ _ => rfl) ?_
                          refine pG_getI (ci := 6) (f := 4) rfl rfl (Or.inl rfl) (by rfl) (by decide) ?_
                          refine pG_putI (ci := 2) (f := 4) rfl rfl rfl rfl hk109 (by decide) ?_
                          rw [mjLet] at h
                          generalize zSi Z128 p0 4 (Z128.1 182 4) = Z130 at h ⊢
                          refine pG_many 2 (pc1 := 117) (L1 := [some (.ref 182), some (.ref p0)]) (st1 := [.int 59, .ref 182]) (M1 := mjTo Z130) (fun _ _ => rfl) ?_
                          cases hq131 : f117_takeSign 59 Z130 with
                          | none => rw [hq131] at h; cases h
                          | some w =>
                            obtain ⟨v132, Z133⟩ := w
                            rw [hq131, mjBd_some] at h
                            refine pG_callV (k2 := 107) (As := [.ref 182, .int 59]) (rest := []) rfl rfl rfl rfl rfl (by rfl) (by decide) (by decide) (f117_takeSign_ok hq131) ?_
                            rintro r9 M9 ⟨rfl, rfl⟩
                            show pG 108 120 [some (.ref 182), some (.ref p0)] [.int v132] (mjTo Z133) _
                            have hk134 : v132 = 0 ∨ v132 = 1 := by
                              by_cases q9 : v132 = 0 ∨ v132 = 1
                              · exact q9
                              · rw [if_neg q9] at h; cases h
                            rw [if_pos hk134] at h
                            simp only [Option.some.injEq, Prod.mk.injEq] at h
                            obtain ⟨rfl, rfl⟩ := h
                            exact pG_ret (r := some (.int v132)) (mjRt1_z rfl rfl hk134) ⟨rfl, rfl⟩
                        · rw [if_neg hc129] at h
                          refine pG_iff (t := 106) rfl rfl hc129 ?_
                          refine pG_many 1 (pc1 := 105) (L1 := [some (.ref 182), some (.ref p0)]) (st1 := [.int 0]) (M1 := mjTo Z128) (fun _ _ => rfl) ?_
                          simp only [Option.some.injEq, Prod.mk.injEq] at h
                          obtain ⟨rfl, rfl⟩ := h
                          exact pG_ret (r := some (.int 0)) rfl ⟨rfl, rfl⟩
                    · rw [if_neg hc124] at h
                      refine pG_iff (t := 84) rfl rfl hc124 ?_
                      refine pG_many 1 (pc1 := 83) (L1 := [some (.ref 182), some (.ref p0)]) (st1 := [.int 0]) (M1 := mjTo Z123) (fun _ _ => rfl) ?_
                      simp only [Option.some.injEq, Prod.mk.injEq] at h
                      obtain ⟨rfl, rfl⟩ := h
                      exact pG_ret (r := some (.int 0)) rfl ⟨rfl, rfl⟩
                · rw [if_neg hc119] at h
                  refine pG_iff (t := 64) rfl rfl hc119 ?_
                  refine pG_many 1 (pc1 := 63) (L1 := [some (.ref 182), some (.ref p0)]) (st1 := [.int 0]) (M1 := mjTo Z118) (fun _ _ => rfl) ?_
                  simp only [Option.some.injEq, Prod.mk.injEq] at h
                  obtain ⟨rfl, rfl⟩ := h
                  exact pG_ret (r := some (.int 0)) rfl ⟨rfl, rfl⟩
            · rw [if_neg hc114] at h
              refine pG_iff (t := 44) rfl rfl hc114 ?_
              refine pG_many 1 (pc1 := 43) (L1 := [some (.ref 182), some (.ref p0)]) (st1 := [.int 0]) (M1 := mjTo Z113) (fun _ _ => rfl) ?_
              simp only [Option.some.injEq, Prod.mk.injEq] at h
              obtain ⟨rfl, rfl⟩ := h
              exact pG_ret (r := some (.int 0)) rfl ⟨rfl, rfl⟩
        · rw [if_neg hc108] at h
          refine pG_iff (t := 22) rfl rfl hc108 ?_
          refine pG_many 1 (pc1 := 21) (L1 := [some (.ref 182), some (.ref p0)]) (st1 := [.int 0]) (M1 := mjTo Z107) (fun _ _ => rfl) ?_
          simp only [Option.some.injEq, Prod.mk.injEq] at h
          obtain ⟨rfl, rfl⟩ := h
          exact pG_ret (r := some (.int 0)) rfl ⟨rfl, rfl⟩
def f119_isName  (Z : mjZt) : Option Int32 :=
  if mjCmp .ne (Z.1 183 3) 1 = true then
    some 0
  else
    mjBp (f51_indexIn 1000006 Z) fun v103 =>
    if mjCmp .ne v103 ((-1)) = true then
      some 0
    else
      mjBp (f51_indexIn 1000007 Z) fun v107 =>
      if mjCmp .ne v107 ((-1)) = true then
        some 0
      else
        mjBp (f51_indexIn 1000008 Z) fun v111 =>
        if mjCmp .ne v111 ((-1)) = true then
          some 0
        else
          mjBp (f51_indexIn 1000009 Z) fun v115 =>
          if mjCmp .ne v115 ((-1)) = true then
            some 0
          else
            some 1
theorem f119_isName_ok  {Z : mjZt} {v9 : Int32} (h : f119_isName  Z = some v9) : pG 109 0 (mjEnt [.ref 183] (mjML 109)) [] (mjTo Z) (fun r M1 => r = some (.int v9) ∧ M1 = mjTo Z) := by
  unfold f119_isName at h
  show pG 109 0 [some (.ref 183)] [] (mjTo Z) _
  refine pG_many 1 (pc1 := 1) (L1 := [some (.ref 183)]) (st1 := [.ref 183]) (M1 := mjTo Z) (fun _ _ => rfl) ?_
  refine pG_getI (ci := 9) (f := 3) rfl rfl (Or.inl rfl) (by rfl) (by decide) ?_
  refine pG_many 1 (pc1 := 5) (L1 := [some (.ref 183)]) (st1 := [.int 1, .int (Z.1 183 3)]) (M1 := mjTo Z) (fun _ _ => rfl) ?_
  by_cases hc101 : mjCmp .ne (Z.1 183 3) 1 = true
  · rw [if_pos hc101] at h
    refine pG_cmt (t := 52) rfl rfl hc101 ?_
    refine pG_many 1 (pc1 := 53) (L1 := [some (.ref 183)]) (st1 := [.int 0]) (M1 := mjTo Z) (fun _ _ => rfl) ?_
    simp only [Option.some.injEq] at h
    subst h
    exact pG_ret (r := some (.int 0)) rfl ⟨rfl, rfl⟩
  · rw [if_neg hc101] at h
    refine pG_cmf (t := 52) rfl rfl hc101 ?_
    refine pG_many 2 (pc1 := 11) (L1 := [some (.ref 183)]) (st1 := [.ref 1000006, .ref 183]) (M1 := mjTo Z) (fun _ _ => rfl) ?_
    cases hq102 : f51_indexIn 1000006 Z with
    | none => rw [hq102] at h; cases h
    | some v103 =>
      rw [hq102, mjBp_some] at h
      refine pG_callV (k2 := 51) (As := [.ref 183, .ref 1000006]) (rest := []) rfl rfl rfl rfl rfl (by rfl) (by decide) (by decide) (f51_indexIn_ok hq102) ?_
      rintro r9 M9 ⟨rfl, rfl⟩
      show pG 109 14 [some (.ref 183)] [.int v103] (mjTo Z) _
      refine pG_many 1 (pc1 := 15) (L1 := [some (.ref 183)]) (st1 := [.int ((-1)), .int v103]) (M1 := mjTo Z) (fun _ _ => rfl) ?_
      by_cases hc105 : mjCmp .ne v103 ((-1)) = true
      · rw [if_pos hc105] at h
        refine pG_cmt (t := 52) rfl rfl hc105 ?_
        refine pG_many 1 (pc1 := 53) (L1 := [some (.ref 183)]) (st1 := [.int 0]) (M1 := mjTo Z) (fun _ _ => rfl) ?_
        simp only [Option.some.injEq] at h
        subst h
        exact pG_ret (r := some (.int 0)) rfl ⟨rfl, rfl⟩
      · rw [if_neg hc105] at h
        refine pG_cmf (t := 52) rfl rfl hc105 ?_
        refine pG_many 2 (pc1 := 21) (L1 := [some (.ref 183)]) (st1 := [.ref 1000007, .ref 183]) (M1 := mjTo Z) (fun _ _ => rfl) ?_
        cases hq106 : f51_indexIn 1000007 Z with
        | none => rw [hq106] at h; cases h
        | some v107 =>
          rw [hq106, mjBp_some] at h
          refine pG_callV (k2 := 51) (As := [.ref 183, .ref 1000007]) (rest := []) rfl rfl rfl rfl rfl (by rfl) (by decide) (by decide) (f51_indexIn_ok hq106) ?_
          rintro r9 M9 ⟨rfl, rfl⟩
          show pG 109 24 [some (.ref 183)] [.int v107] (mjTo Z) _
          refine pG_many 1 (pc1 := 25) (L1 := [some (.ref 183)]) (st1 := [.int ((-1)), .int v107]) (M1 := mjTo Z) (fun _ _ => rfl) ?_
          by_cases hc109 : mjCmp .ne v107 ((-1)) = true
          · rw [if_pos hc109] at h
            refine pG_cmt (t := 52) rfl rfl hc109 ?_
            refine pG_many 1 (pc1 := 53) (L1 := [some (.ref 183)]) (st1 := [.int 0]) (M1 := mjTo Z) (fun _ _ => rfl) ?_
            simp only [Option.some.injEq] at h
            subst h
            exact pG_ret (r := some (.int 0)) rfl ⟨rfl, rfl⟩
          · rw [if_neg hc109] at h
            refine pG_cmf (t := 52) rfl rfl hc109 ?_
            refine pG_many 2 (pc1 := 31) (L1 := [some (.ref 183)]) (st1 := [.ref 1000008, .ref 183]) (M1 := mjTo Z) (fun _ _ => rfl) ?_
            cases hq110 : f51_indexIn 1000008 Z with
            | none => rw [hq110] at h; cases h
            | some v111 =>
              rw [hq110, mjBp_some] at h
              refine pG_callV (k2 := 51) (As := [.ref 183, .ref 1000008]) (rest := []) rfl rfl rfl rfl rfl (by rfl) (by decide) (by decide) (f51_indexIn_ok hq110) ?_
              rintro r9 M9 ⟨rfl, rfl⟩
              show pG 109 34 [some (.ref 183)] [.int v111] (mjTo Z) _
              refine pG_many 1 (pc1 := 35) (L1 := [some (.ref 183)]) (st1 := [.int ((-1)), .int v111]) (M1 := mjTo Z) (fun _ _ => rfl) ?_
              by_cases hc113 : mjCmp .ne v111 ((-1)) = true
              · rw [if_pos hc113] at h
                refine pG_cmt (t := 52) rfl rfl hc113 ?_
                refine pG_many 1 (pc1 := 53) (L1 := [some (.ref 183)]) (st1 := [.int 0]) (M1 := mjTo Z) (fun _ _ => rfl) ?_
                simp only [Option.some.injEq] at h
                subst h
                exact pG_ret (r := some (.int 0)) rfl ⟨rfl, rfl⟩
              · rw [if_neg hc113] at h
                refine pG_cmf (t := 52) rfl rfl hc113 ?_
                refine pG_many 2 (pc1 := 41) (L1 := [some (.ref 183)]) (st1 := [.ref 1000009, .ref 183]) (M1 := mjTo Z) (fun _ _ => rfl) ?_
                cases hq114 : f51_indexIn 1000009 Z with
                | none => rw [hq114] at h; cases h
                | some v115 =>
                  rw [hq114, mjBp_some] at h
                  refine pG_callV (k2 := 51) (As := [.ref 183, .ref 1000009]) (rest := []) rfl rfl rfl rfl rfl (by rfl) (by decide) (by decide) (f51_indexIn_ok hq114) ?_
                  rintro r9 M9 ⟨rfl, rfl⟩
                  show pG 109 44 [some (.ref 183)] [.int v115] (mjTo Z) _
                  refine pG_many 1 (pc1 := 45) (L1 := [some (.ref 183)]) (st1 := [.int ((-1)), .int v115]) (M1 := mjTo Z) (fun _ _ => rfl) ?_
                  by_cases hc117 : mjCmp .ne v115 ((-1)) = true
                  · rw [if_pos hc117] at h
                    refine pG_cmt (t := 52) rfl rfl hc117 ?_
                    refine pG_many 1 (pc1 := 53) (L1 := [some (.ref 183)]) (st1 := [.int 0]) (M1 := mjTo Z) (fun _ _ => rfl) ?_
                    simp only [Option.some.injEq] at h
                    subst h
                    exact pG_ret (r := some (.int 0)) rfl ⟨rfl, rfl⟩
                  · rw [if_neg hc117] at h
                    refine pG_cmf (t := 52) rfl rfl hc117 ?_
                    refine pG_many 2 (pc1 := 53) (L1 := [some (.ref 183)]) (st1 := [.int 1]) (M1 := mjTo Z) (fun _ _ => rfl) ?_
                    simp only [Option.some.injEq] at h
                    subst h
                    exact pG_ret (r := some (.int 1)) rfl ⟨rfl, rfl⟩
def f120_readTeam_j105 (x1 : Nat) (x2 : Int64) (Z : mjZt) : Option (Int32 × mjZt) :=
  mjBd (f116_takeNumber 1 9 Z) fun v119 Z120 =>
  if mjCmp .ne v119 0 = true then
    if mjIs x1 211 2 = true then
    mjBd (f27_addTeam x1 x2 (Z120.1 182 4) Z120) fun _ Z125 =>
    some (1, Z125)
    else none
  else
    some (0, Z120)
theorem f120_readTeam_j105_ok (x1 : Nat) (x2 : Int64) (d3 : Option Value) (Z : mjZt) (v9 : Int32) (Z9 : mjZt) (h : f120_readTeam_j105 x1 x2 Z = some (v9, Z9)) : pG 110 105 [some (.ref 182), some (.ref x1), some (.long x2), d3] [] (mjTo Z) (fun r M1 => r = some (.int v9) ∧ M1 = mjTo Z9) := by
  unfold f120_readTeam_j105 at h
  refine pG_many 3 (pc1 := 109) (L1 := [some (.ref 182), some (.ref x1), some (.long x2), d3]) (st1 := [.int 9, .int 1, .ref 182]) (M1 := mjTo Z) (fun _ _ => rfl) ?_
  cases hq118 : f116_takeNumber 1 9 Z with
  | none => rw [hq118] at h; cases h
  | some w =>
    obtain ⟨v119, Z120⟩ := w
    rw [hq118, mjBd_some] at h
    refine pG_callV (k2 := 106) (As := [.ref 182, .int 1, .int 9]) (rest := []) rfl rfl rfl rfl rfl (by rfl) (by decide) (by decide) (f116_takeNumber_ok hq118) ?_
    rintro r9 M9 ⟨rfl, rfl⟩
    show pG 110 112 [some (.ref 182), some (.ref x1), some (.long x2), d3] [.int v119] (mjTo Z120) _
    by_cases hc121 : mjCmp .ne v119 0 = true
    · rw [if_pos hc121] at h
      refine pG_ift (t := 117) rfl rfl hc121 ?_
      refine pG_many 3 (pc1 := 120) (L1 := [some (.ref 182), some (.ref x1), some (.long x2), d3]) (st1 := [.ref 182, .long x2, .ref x1]) (M1 := mjTo Z120) (fun _ _ => rfl) ?_
      refine pG_getI (ci := 6) (f := 4) rfl rfl (Or.inl rfl) (by rfl) (by decide) ?_
      have hk122 : mjIs x1 211 2 = true := by
        by_cases q9 : mjIs x1 211 2 = true
        · exact q9
        · rw [if_neg q9] at h; cases h
      rw [if_pos hk122] at h
      cases hq123 : f27_addTeam x1 x2 (Z120.1 182 4) Z120 with
      | none => rw [hq123] at h; cases h
      | some w =>
        obtain ⟨v124, Z125⟩ := w
        rw [hq123, mjBd_some] at h
        refine pG_callV (k2 := 27) (As := [.ref x1, .long x2, .int (Z120.1 182 4)]) (rest := []) rfl rfl rfl rfl rfl (mjRcv_is hk122 (by decide)) (by decide) (by decide) (f27_addTeam_ok hq123) ?_
        rintro r9 M9 ⟨rfl, rfl⟩
        show pG 110 126 [some (.ref 182), some (.ref x1), some (.long x2), d3] [] (mjTo Z125) _
        refine pG_many 1 (pc1 := 127) (L1 := [some (.ref 182), some (.ref x1), some (.long x2), d3]) (st1 := [.int 1]) (M1 := mjTo Z125) (fun _ _ => rfl) ?_
        simp only [Option.some.injEq, Prod.mk.injEq] at h
        obtain ⟨rfl, rfl⟩ := h
        exact pG_ret (r := some (.int 1)) rfl ⟨rfl, rfl⟩
    · rw [if_neg hc121] at h
      refine pG_iff (t := 117) rfl rfl hc121 ?_
      refine pG_many 1 (pc1 := 116) (L1 := [some (.ref 182), some (.ref x1), some (.long x2), d3]) (st1 := [.int 0]) (M1 := mjTo Z120) (fun _ _ => rfl) ?_
      simp only [Option.some.injEq, Prod.mk.injEq] at h
      obtain ⟨rfl, rfl⟩ := h
      exact pG_ret (r := some (.int 0)) rfl ⟨rfl, rfl⟩
def f120_readTeam (p0 : Nat) (Z : mjZt) : Option (Int32 × mjZt) :=
  if mjIs p0 211 2 = true then
  if mjCmp .lt (Z.1 p0 5) 6 = true then
    mjBd (f68_advance  Z) fun _ Z105 =>
    mjBp (f119_isName  Z105) fun v107 =>
    if mjCmp .ne v107 0 = true then
      mjBp (f26_isNameTaken p0 (Z105.2.1 183 6) Z105) fun v111 =>
      if mjCmp .eq v111 0 = true then
        mjBd (f68_advance  Z105) fun _ Z116 =>
        if mjCmp .ne (Z116.1 183 3) 2 = true then
          f120_readTeam_j105 p0 (Z105.2.1 183 6) Z116
        else
          mjBp (f24_teamInLane p0 (Z116.1 183 5) Z116) fun v127 =>
          if mjCmp .eq v127 ((-1)) = true then
            f120_readTeam_j105 p0 (Z105.2.1 183 6) Z116
          else
            mjBd (f114_fail 4 Z116) fun v131 Z132 =>
            if v131 = 0 ∨ v131 = 1 then
            some (v131, Z132)
            else none
      else
        mjBd (f114_fail 3 Z105) fun v135 Z136 =>
        if v135 = 0 ∨ v135 = 1 then
        some (v135, Z136)
        else none
    else
      mjBd (f114_fail 2 Z105) fun v139 Z140 =>
      if v139 = 0 ∨ v139 = 1 then
      some (v139, Z140)
      else none
  else
    mjBd (f114_fail 5 Z) fun v143 Z144 =>
    if v143 = 0 ∨ v143 = 1 then
    some (v143, Z144)
    else none
  else none
theorem f120_readTeam_ok {p0 : Nat} {Z : mjZt} {v9 : Int32} {Z9 : mjZt} (h : f120_readTeam p0 Z = some (v9, Z9)) : pG 110 0 (mjEnt [.ref 182, .ref p0] (mjML 110)) [] (mjTo Z) (fun r M1 => r = some (.int v9) ∧ M1 = mjTo Z9) := by
  unfold f120_readTeam at h
  show pG 110 0 [some (.ref 182), some (.ref p0), none, none] [] (mjTo Z) _
  refine pG_many 1 (pc1 := 1) (L1 := [some (.ref 182), some (.ref p0), none, none]) (st1 := [.ref p0]) (M1 := mjTo Z) (fun _ _ => rfl) ?_
  have hk101 : mjIs p0 211 2 = true := by
    by_cases q9 : mjIs p0 211 2 = true
    · exact q9
    · rw [if_neg q9] at h; cases h
  rw [if_pos hk101] at h
  refine pG_getI (ci := 2) (f := 5) rfl rfl (Or.inl rfl) hk101 (by decide) ?_
  refine pG_many 1 (pc1 := 6) (L1 := [some (.ref 182), some (.ref p0), none, none]) (st1 := [.int 6, .int (Z.1 p0 5)]) (M1 := mjTo Z) (fun _ _ => rfl) ?_
  by_cases hc102 : mjCmp .lt (Z.1 p0 5) 6 = true
  · rw [if_pos hc102] at h
    refine pG_cmt (t := 15) rfl rfl hc102 ?_
    refine pG_many 1 (pc1 := 16) (L1 := [some (.ref 182), some (.ref p0), none, none]) (st1 := [.ref 182]) (M1 := mjTo Z) (fun _ _ => rfl) ?_
    refine pG_getR (ci := 6) (f := 0) (b := 183) rfl rfl rfl (by rfl) (by decide) rfl ?_
    cases hq103 : f68_advance  Z with
    | none => rw [hq103] at h; cases h
    | some w =>
      obtain ⟨v104, Z105⟩ := w
      rw [hq103, mjBd_some] at h
      refine pG_callV (k2 := 68) (As := [.ref 183]) (rest := []) rfl rfl rfl rfl rfl (by rfl) (by decide) (by decide) (f68_advance_ok hq103) ?_
      rintro r9 M9 ⟨rfl, rfl⟩
      show pG 110 22 [some (.ref 182), some (.ref p0), none, none] [] (mjTo Z105) _
      refine pG_many 1 (pc1 := 23) (L1 := [some (.ref 182), some (.ref p0), none, none]) (st1 := [.ref 182]) (M1 := mjTo Z105) (fun _ _ => rfl) ?_
      refine pG_getR (ci := 6) (f := 0) (b := 183) rfl rfl rfl (by rfl) (by decide) rfl ?_
      cases hq106 : f119_isName  Z105 with
      | none => rw [hq106] at h; cases h
      | some v107 =>
        rw [hq106, mjBp_some] at h
        refine pG_callV (k2 := 109) (As := [.ref 183]) (rest := []) rfl rfl rfl rfl rfl (by rfl) (by decide) (by decide) (f119_isName_ok hq106) ?_
        rintro r9 M9 ⟨rfl, rfl⟩
        show pG 110 29 [some (.ref 182), some (.ref p0), none, none] [.int v107] (mjTo Z105) _
        by_cases hc109 : mjCmp .ne v107 0 = true
        · rw [if_pos hc109] at h
          refine pG_ift (t := 38) rfl rfl hc109 ?_
          refine pG_many 2 (pc1 := 40) (L1 := [some (.ref 182), some (.ref p0), none, none]) (st1 := [.ref 182, .ref p0]) (M1 := mjTo Z105) (fun _ _ => rfl) ?_
          refine pG_getR (ci := 6) (f := 0) (b := 183) rfl rfl rfl (by rfl) (by decide) rfl ?_
          refine pG_getL (ci := 9) (f := 6) rfl rfl rfl (by rfl) (by decide) ?_
          cases hq110 : f26_isNameTaken p0 (Z105.2.1 183 6) Z105 with
          | none => rw [hq110] at h; cases h
          | some v111 =>
            rw [hq110, mjBp_some] at h
            refine pG_callV (k2 := 26) (As := [.ref p0, .long (Z105.2.1 183 6)]) (rest := []) rfl rfl rfl rfl rfl (mjRcv_is hk101 (by decide)) (by decide) (by decide) (f26_isNameTaken_ok hq110) ?_
            rintro r9 M9 ⟨rfl, rfl⟩
            show pG 110 49 [some (.ref 182), some (.ref p0), none, none] [.int v111] (mjTo Z105) _
            by_cases hc113 : mjCmp .eq v111 0 = true
            · rw [if_pos hc113] at h
              refine pG_ift (t := 58) rfl rfl hc113 ?_
              refine pG_many 1 (pc1 := 59) (L1 := [some (.ref 182), some (.ref p0), none, none]) (st1 := [.ref 182]) (M1 := mjTo Z105) (fun _ _ => rfl) ?_
              refine pG_getR (ci := 6) (f := 0) (b := 183) rfl rfl rfl (by rfl) (by decide) rfl ?_
              refine pG_getL (ci := 9) (f := 6) rfl rfl rfl (by rfl) (by decide) ?_
              refine pG_many 2 (pc1 := 67) (L1 := [some (.ref 182), some (.ref p0), some (.long (Z105.2.1 183 6)), none]) (st1 := [.ref 182]) (M1 := mjTo Z105) (fun _ _ => rfl) ?_
              refine pG_getR (ci := 6) (f := 0) (b := 183) rfl rfl rfl (by rfl) (by decide) rfl ?_
              cases hq114 : f68_advance  Z105 with
              | none => rw [hq114] at h; cases h
              | some w =>
                obtain ⟨v115, Z116⟩ := w
                rw [hq114, mjBd_some] at h
                refine pG_callV (k2 := 68) (As := [.ref 183]) (rest := []) rfl rfl rfl rfl rfl (by rfl) (by decide) (by decide) (f68_advance_ok hq114) ?_
                rintro r9 M9 ⟨rfl, rfl⟩
                show pG 110 73 [some (.ref 182), some (.ref p0), some (.long (Z105.2.1 183 6)), none] [] (mjTo Z116) _
                refine pG_many 1 (pc1 := 74) (L1 := [some (.ref 182), some (.ref p0), some (.long (Z105.2.1 183 6)), none]) (st1 := [.ref 182]) (M1 := mjTo Z116) (fun _ _ => rfl) ?_
                refine pG_getR (ci := 6) (f := 0) (b := 183) rfl rfl rfl (by rfl) (by decide) rfl ?_
                refine pG_getI (ci := 9) (f := 3) rfl rfl (Or.inl rfl) (by rfl) (by decide) ?_
                refine pG_many 1 (pc1 := 81) (L1 := [some (.ref 182), some (.ref p0), some (.long (Z105.2.1 183 6)), none]) (st1 := [.int 2, .int (Z116.1 183 3)]) (M1 := mjTo Z116) (fun _ _ => rfl) ?_
                by_cases hc117 : mjCmp .ne (Z116.1 183 3) 2 = true
                · rw [if_pos hc117] at h
                  refine pG_cmt (t := 105) rfl rfl hc117 ?_
                  exact f120_readTeam_j105_ok p0 (Z105.2.1 183 6) none Z116 v9 Z9 h
                · rw [if_neg hc117] at h
                  refine pG_cmf (t := 105) rfl rfl hc117 ?_
                  refine pG_many 2 (pc1 := 86) (L1 := [some (.ref 182), some (.ref p0), some (.long (Z105.2.1 183 6)), none]) (st1 := [.ref 182, .ref p0]) (M1 := mjTo Z116) (fun _ _ => rfl) ?_
                  refine pG_getR (ci := 6) (f := 0) (b := 183) rfl rfl rfl (by rfl) (by decide) rfl ?_
                  refine pG_getI (ci := 9) (f := 5) rfl rfl (Or.inl rfl) (by rfl) (by decide) ?_
                  cases hq126 : f24_teamInLane p0 (Z116.1 183 5) Z116 with
                  | none => rw [hq126] at h; cases h
                  | some v127 =>
                    rw [hq126, mjBp_some] at h
                    refine pG_callV (k2 := 24) (As := [.ref p0, .int (Z116.1 183 5)]) (rest := []) rfl rfl rfl rfl rfl (mjRcv_is hk101 (by decide)) (by decide) (by decide) (f24_teamInLane_ok hq126) ?_
                    rintro r9 M9 ⟨rfl, rfl⟩
                    show pG 110 95 [some (.ref 182), some (.ref p0), some (.long (Z105.2.1 183 6)), none] [.int v127] (mjTo Z116) _
                    refine pG_many 1 (pc1 := 96) (L1 := [some (.ref 182), some (.ref p0), some (.long (Z105.2.1 183 6)), none]) (st1 := [.int ((-1)), .int v127]) (M1 := mjTo Z116) (fun _ _ => rfl) ?_
                    by_cases hc129 : mjCmp .eq v127 ((-1)) = true
                    · rw [if_pos hc129] at h
                      refine pG_cmt (t := 105) rfl rfl hc129 ?_
                      exact f120_readTeam_j105_ok p0 (Z105.2.1 183 6) none Z116 v9 Z9 h
                    · rw [if_neg hc129] at h
                      refine pG_cmf (t := 105) rfl rfl hc129 ?_
                      refine pG_many 2 (pc1 := 101) (L1 := [some (.ref 182), some (.ref p0), some (.long (Z105.2.1 183 6)), none]) (st1 := [.int 4, .ref 182]) (M1 := mjTo Z116) (fun _ _ => rfl) ?_
                      cases hq130 : f114_fail 4 Z116 with
                      | none => rw [hq130] at h; cases h
                      | some w =>
                        obtain ⟨v131, Z132⟩ := w
                        rw [hq130, mjBd_some] at h
                        refine pG_callV (k2 := 104) (As := [.ref 182, .int 4]) (rest := []) rfl rfl rfl rfl rfl (by rfl) (by decide) (by decide) (f114_fail_ok hq130) ?_
                        rintro r9 M9 ⟨rfl, rfl⟩
                        show pG 110 104 [some (.ref 182), some (.ref p0), some (.long (Z105.2.1 183 6)), none] [.int v131] (mjTo Z132) _
                        have hk133 : v131 = 0 ∨ v131 = 1 := by
                          by_cases q9 : v131 = 0 ∨ v131 = 1
                          · exact q9
                          · rw [if_neg q9] at h; cases h
                        rw [if_pos hk133] at h
                        simp only [Option.some.injEq, Prod.mk.injEq] at h
                        obtain ⟨rfl, rfl⟩ := h
                        exact pG_ret (r := some (.int v131)) (mjRt1_z rfl rfl hk133) ⟨rfl, rfl⟩
            · rw [if_neg hc113] at h
              refine pG_iff (t := 58) rfl rfl hc113 ?_
              refine pG_many 2 (pc1 := 54) (L1 := [some (.ref 182), some (.ref p0), none, none]) (st1 := [.int 3, .ref 182]) (M1 := mjTo Z105) (fun _ _ => rfl) ?_
              cases hq134 : f114_fail 3 Z105 with
              | none => rw [hq134] at h; cases h
              | some w =>
                obtain ⟨v135, Z136⟩ := w
                rw [hq134, mjBd_some] at h
                refine pG_callV (k2 := 104) (As := [.ref 182, .int 3]) (rest := []) rfl rfl rfl rfl rfl (by rfl) (by decide) (by decide) (f114_fail_ok hq134) ?_
                rintro r9 M9 ⟨rfl, rfl⟩
                show pG 110 57 [some (.ref 182), some (.ref p0), none, none] [.int v135] (mjTo Z136) _
                have hk137 : v135 = 0 ∨ v135 = 1 := by
                  by_cases q9 : v135 = 0 ∨ v135 = 1
                  · exact q9
                  · rw [if_neg q9] at h; cases h
                rw [if_pos hk137] at h
                simp only [Option.some.injEq, Prod.mk.injEq] at h
                obtain ⟨rfl, rfl⟩ := h
                exact pG_ret (r := some (.int v135)) (mjRt1_z rfl rfl hk137) ⟨rfl, rfl⟩
        · rw [if_neg hc109] at h
          refine pG_iff (t := 38) rfl rfl hc109 ?_
          refine pG_many 2 (pc1 := 34) (L1 := [some (.ref 182), some (.ref p0), none, none]) (st1 := [.int 2, .ref 182]) (M1 := mjTo Z105) (fun _ _ => rfl) ?_
          cases hq138 : f114_fail 2 Z105 with
          | none => rw [hq138] at h; cases h
          | some w =>
            obtain ⟨v139, Z140⟩ := w
            rw [hq138, mjBd_some] at h
            refine pG_callV (k2 := 104) (As := [.ref 182, .int 2]) (rest := []) rfl rfl rfl rfl rfl (by rfl) (by decide) (by decide) (f114_fail_ok hq138) ?_
            rintro r9 M9 ⟨rfl, rfl⟩
            show pG 110 37 [some (.ref 182), some (.ref p0), none, none] [.int v139] (mjTo Z140) _
            have hk141 : v139 = 0 ∨ v139 = 1 := by
              by_cases q9 : v139 = 0 ∨ v139 = 1
              · exact q9
              · rw [if_neg q9] at h; cases h
            rw [if_pos hk141] at h
            simp only [Option.some.injEq, Prod.mk.injEq] at h
            obtain ⟨rfl, rfl⟩ := h
            exact pG_ret (r := some (.int v139)) (mjRt1_z rfl rfl hk141) ⟨rfl, rfl⟩
  · rw [if_neg hc102] at h
    refine pG_cmf (t := 15) rfl rfl hc102 ?_
    refine pG_many 2 (pc1 := 11) (L1 := [some (.ref 182), some (.ref p0), none, none]) (st1 := [.int 5, .ref 182]) (M1 := mjTo Z) (fun _ _ => rfl) ?_
    cases hq142 : f114_fail 5 Z with
    | none => rw [hq142] at h; cases h
    | some w =>
      obtain ⟨v143, Z144⟩ := w
      rw [hq142, mjBd_some] at h
      refine pG_callV (k2 := 104) (As := [.ref 182, .int 5]) (rest := []) rfl rfl rfl rfl rfl (by rfl) (by decide) (by decide) (f114_fail_ok hq142) ?_
      rintro r9 M9 ⟨rfl, rfl⟩
      show pG 110 14 [some (.ref 182), some (.ref p0), none, none] [.int v143] (mjTo Z144) _
      have hk145 : v143 = 0 ∨ v143 = 1 := by
        by_cases q9 : v143 = 0 ∨ v143 = 1
        · exact q9
        · rw [if_neg q9] at h; cases h
      rw [if_pos hk145] at h
      simp only [Option.some.injEq, Prod.mk.injEq] at h
      obtain ⟨rfl, rfl⟩ := h
      exact pG_ret (r := some (.int v143)) (mjRt1_z rfl rfl hk145) ⟨rfl, rfl⟩
def f121_takeTeam (p0 : Nat) (p1 : Int32) (Z : mjZt) : Option (Int32 × mjZt) :=
  mjBp (f119_isName  Z) fun v102 =>
  if mjCmp .ne v102 0 = true then
    if mjIs p0 211 2 = true then
    mjBp (f25_teamOfName p0 (Z.2.1 183 6) Z) fun v107 =>
    if mjCmp .eq v107 ((-1)) = true then
      mjBd (f114_fail 3 Z) fun v111 Z112 =>
      some ((-1), Z112)
    else
      if mjCmp .ne v107 p1 = true then
        mjBd (f68_advance  Z) fun _ Z116 =>
        some (v107, Z116)
      else
        mjBd (f114_fail 3 Z) fun v118 Z119 =>
        some ((-1), Z119)
    else none
  else
    mjBd (f114_fail 2 Z) fun v121 Z122 =>
    some ((-1), Z122)
theorem f121_takeTeam_ok {p0 : Nat} {p1 : Int32} {Z : mjZt} {v9 : Int32} {Z9 : mjZt} (h : f121_takeTeam p0 p1 Z = some (v9, Z9)) : pG 111 0 (mjEnt [.ref 182, .ref p0, .int p1] (mjML 111)) [] (mjTo Z) (fun r M1 => r = some (.int v9) ∧ M1 = mjTo Z9) := by
  unfold f121_takeTeam at h
  show pG 111 0 [some (.ref 182), some (.ref p0), some (.int p1), none] [] (mjTo Z) _
  refine pG_many 1 (pc1 := 1) (L1 := [some (.ref 182), some (.ref p0), some (.int p1), none]) (st1 := [.ref 182]) (M1 := mjTo Z) (fun _ _ => rfl) ?_
  refine pG_getR (ci := 6) (f := 0) (b := 183) rfl rfl rfl (by rfl) (by decide) rfl ?_
  cases hq101 : f119_isName  Z with
  | none => rw [hq101] at h; cases h
  | some v102 =>
    rw [hq101, mjBp_some] at h
    refine pG_callV (k2 := 109) (As := [.ref 183]) (rest := []) rfl rfl rfl rfl rfl (by rfl) (by decide) (by decide) (f119_isName_ok hq101) ?_
    rintro r9 M9 ⟨rfl, rfl⟩
    show pG 111 7 [some (.ref 182), some (.ref p0), some (.int p1), none] [.int v102] (mjTo Z) _
    by_cases hc104 : mjCmp .ne v102 0 = true
    · rw [if_pos hc104] at h
      refine pG_ift (t := 18) rfl rfl hc104 ?_
      refine pG_many 2 (pc1 := 20) (L1 := [some (.ref 182), some (.ref p0), some (.int p1), none]) (st1 := [.ref 182, .ref p0]) (M1 := mjTo Z) (fun _ _ => rfl) ?_
      refine pG_getR (ci := 6) (f := 0) (b := 183) rfl rfl rfl (by rfl) (by decide) rfl ?_
      refine pG_getL (ci := 9) (f := 6) rfl rfl rfl (by rfl) (by decide) ?_
      have hk105 : mjIs p0 211 2 = true := by
        by_cases q9 : mjIs p0 211 2 = true
        · exact q9
        · rw [if_neg q9] at h; cases h
      rw [if_pos hk105] at h
      cases hq106 : f25_teamOfName p0 (Z.2.1 183 6) Z with
      | none => rw [hq106] at h; cases h
      | some v107 =>
        rw [hq106, mjBp_some] at h
        refine pG_callV (k2 := 25) (As := [.ref p0, .long (Z.2.1 183 6)]) (rest := []) rfl rfl rfl rfl rfl (mjRcv_is hk105 (by decide)) (by decide) (by decide) (f25_teamOfName_ok hq106) ?_
        rintro r9 M9 ⟨rfl, rfl⟩
        show pG 111 29 [some (.ref 182), some (.ref p0), some (.int p1), none] [.int v107] (mjTo Z) _
        refine pG_many 3 (pc1 := 32) (L1 := [some (.ref 182), some (.ref p0), some (.int p1), some (.int v107)]) (st1 := [.int ((-1)), .int v107]) (M1 := mjTo Z) (fun _ _ => rfl) ?_
        by_cases hc109 : mjCmp .eq v107 ((-1)) = true
        · rw [if_pos hc109] at h
          refine pG_cmt (t := 40) rfl rfl hc109 ?_
          refine pG_many 2 (pc1 := 42) (L1 := [some (.ref 182), some (.ref p0), some (.int p1), some (.int v107)]) (st1 := [.int 3, .ref 182]) (M1 := mjTo Z) (fun _ _ => rfl) ?_
          cases hq110 : f114_fail 3 Z with
          | none => rw [hq110] at h; cases h
          | some w =>
            obtain ⟨v111, Z112⟩ := w
            rw [hq110, mjBd_some] at h
            refine pG_callV (k2 := 104) (As := [.ref 182, .int 3]) (rest := []) rfl rfl rfl rfl rfl (by rfl) (by decide) (by decide) (f114_fail_ok hq110) ?_
            rintro r9 M9 ⟨rfl, rfl⟩
            show pG 111 45 [some (.ref 182), some (.ref p0), some (.int p1), some (.int v107)] [.int v111] (mjTo Z112) _
            refine pG_many 2 (pc1 := 47) (L1 := [some (.ref 182), some (.ref p0), some (.int p1), some (.int v107)]) (st1 := [.int ((-1))]) (M1 := mjTo Z112) (fun _ _ => rfl) ?_
            simp only [Option.some.injEq, Prod.mk.injEq] at h
            obtain ⟨rfl, rfl⟩ := h
            exact pG_ret (r := some (.int ((-1)))) rfl ⟨rfl, rfl⟩
        · rw [if_neg hc109] at h
          refine pG_cmf (t := 40) rfl rfl hc109 ?_
          refine pG_many 2 (pc1 := 37) (L1 := [some (.ref 182), some (.ref p0), some (.int p1), some (.int v107)]) (st1 := [.int p1, .int v107]) (M1 := mjTo Z) (fun _ _ => rfl) ?_
          by_cases hc113 : mjCmp .ne v107 p1 = true
          · rw [if_pos hc113] at h
            refine pG_cmt (t := 48) rfl rfl hc113 ?_
            refine pG_many 1 (pc1 := 49) (L1 := [some (.ref 182), some (.ref p0), some (.int p1), some (.int v107)]) (st1 := [.ref 182]) (M1 := mjTo Z) (fun _ _ => rfl) ?_
            refine pG_getR (ci := 6) (f := 0) (b := 183) rfl rfl rfl (by rfl) (by decide) rfl ?_
            cases hq114 : f68_advance  Z with
            | none => rw [hq114] at h; cases h
            | some w =>
              obtain ⟨v115, Z116⟩ := w
              rw [hq114, mjBd_some] at h
              refine pG_callV (k2 := 68) (As := [.ref 183]) (rest := []) rfl rfl rfl rfl rfl (by rfl) (by decide) (by decide) (f68_advance_ok hq114) ?_
              rintro r9 M9 ⟨rfl, rfl⟩
              show pG 111 55 [some (.ref 182), some (.ref p0), some (.int p1), some (.int v107)] [] (mjTo Z116) _
              refine pG_many 1 (pc1 := 56) (L1 := [some (.ref 182), some (.ref p0), some (.int p1), some (.int v107)]) (st1 := [.int v107]) (M1 := mjTo Z116) (fun _ _ => rfl) ?_
              simp only [Option.some.injEq, Prod.mk.injEq] at h
              obtain ⟨rfl, rfl⟩ := h
              exact pG_ret (r := some (.int v107)) rfl ⟨rfl, rfl⟩
          · rw [if_neg hc113] at h
            refine pG_cmf (t := 48) rfl rfl hc113 ?_
            refine pG_many 2 (pc1 := 42) (L1 := [some (.ref 182), some (.ref p0), some (.int p1), some (.int v107)]) (st1 := [.int 3, .ref 182]) (M1 := mjTo Z) (fun _ _ => rfl) ?_
            cases hq117 : f114_fail 3 Z with
            | none => rw [hq117] at h; cases h
            | some w =>
              obtain ⟨v118, Z119⟩ := w
              rw [hq117, mjBd_some] at h
              refine pG_callV (k2 := 104) (As := [.ref 182, .int 3]) (rest := []) rfl rfl rfl rfl rfl (by rfl) (by decide) (by decide) (f114_fail_ok hq117) ?_
              rintro r9 M9 ⟨rfl, rfl⟩
              show pG 111 45 [some (.ref 182), some (.ref p0), some (.int p1), some (.int v107)] [.int v118] (mjTo Z119) _
              refine pG_many 2 (pc1 := 47) (L1 := [some (.ref 182), some (.ref p0), some (.int p1), some (.int v107)]) (st1 := [.int ((-1))]) (M1 := mjTo Z119) (fun _ _ => rfl) ?_
              simp only [Option.some.injEq, Prod.mk.injEq] at h
              obtain ⟨rfl, rfl⟩ := h
              exact pG_ret (r := some (.int ((-1)))) rfl ⟨rfl, rfl⟩
    · rw [if_neg hc104] at h
      refine pG_iff (t := 18) rfl rfl hc104 ?_
      refine pG_many 2 (pc1 := 12) (L1 := [some (.ref 182), some (.ref p0), some (.int p1), none]) (st1 := [.int 2, .ref 182]) (M1 := mjTo Z) (fun _ _ => rfl) ?_
      cases hq120 : f114_fail 2 Z with
      | none => rw [hq120] at h; cases h
      | some w =>
        obtain ⟨v121, Z122⟩ := w
        rw [hq120, mjBd_some] at h
        refine pG_callV (k2 := 104) (As := [.ref 182, .int 2]) (rest := []) rfl rfl rfl rfl rfl (by rfl) (by decide) (by decide) (f114_fail_ok hq120) ?_
        rintro r9 M9 ⟨rfl, rfl⟩
        show pG 111 15 [some (.ref 182), some (.ref p0), some (.int p1), none] [.int v121] (mjTo Z122) _
        refine pG_many 2 (pc1 := 17) (L1 := [some (.ref 182), some (.ref p0), some (.int p1), none]) (st1 := [.int ((-1))]) (M1 := mjTo Z122) (fun _ _ => rfl) ?_
        simp only [Option.some.injEq, Prod.mk.injEq] at h
        obtain ⟨rfl, rfl⟩ := h
        exact pG_ret (r := some (.int ((-1)))) rfl ⟨rfl, rfl⟩
def f122_addLeg (a0 : Nat) (p0 : Int32) (p1 : Int32) (Z : mjZt) : Option (Unit × mjZt) :=
  if mjIs a0 211 7 = true then
  if mjCmp .ge (Z.1 a0 6) 6 = true then
    some ((), Z)
  else
    mjLet (zSi Z a0 6 ((Z.1 a0 6) + 1)) fun Z103 =>
    mjBd (f9_setLeg a0 (Z103.1 a0 6) p0 p1 Z103) fun _ Z106 =>
    some ((), Z106)
  else none
theorem f122_addLeg_ok {a0 : Nat} {p0 : Int32} {p1 : Int32} {Z : mjZt} {v9 : Unit} {Z9 : mjZt} (h : f122_addLeg a0 p0 p1 Z = some (v9, Z9)) : pG 112 0 (mjEnt [.ref a0, .int p0, .int p1] (mjML 112)) [] (mjTo Z) (fun r M1 => r = none ∧ M1 = mjTo Z9) := by
  unfold f122_addLeg at h
  show pG 112 0 [some (.ref a0), some (.int p0), some (.int p1)] [] (mjTo Z) _
  refine pG_many 1 (pc1 := 1) (L1 := [some (.ref a0), some (.int p0), some (.int p1)]) (st1 := [.ref a0]) (M1 := mjTo Z) (fun _ _ => rfl) ?_
  have hk101 : mjIs a0 211 7 = true := by
    by_cases q9 : mjIs a0 211 7 = true
    · exact q9
    · rw [if_neg q9] at h; cases h
  rw [if_pos hk101] at h
  refine pG_getI (ci := 7) (f := 6) rfl rfl (Or.inl rfl) hk101 (by decide) ?_
  refine pG_many 1 (pc1 := 6) (L1 := [some (.ref a0), some (.int p0), some (.int p1)]) (st1 := [.int 6, .int (Z.1 a0 6)]) (M1 := mjTo Z) (fun _ _ => rfl) ?_
  by_cases hc102 : mjCmp .ge (Z.1 a0 6) 6 = true
  · rw [if_pos hc102] at h
    refine pG_cmt (t := 29) rfl rfl hc102 ?_
    simp only [Option.some.injEq, Prod.mk.injEq] at h
    obtain ⟨-, rfl⟩ := h
    exact pG_ret (r := none) rfl ⟨rfl, rfl⟩
  · rw [if_neg hc102] at h
    refine pG_cmf (t := 29) rfl rfl hc102 ?_
    refine pG_many 2 (pc1 := 11) (L1 := [some (.ref a0), some (.int p0), some (.int p1)]) (st1 := [.ref a0, .ref a0]) (M1 := mjTo Z) (fun _ _ => rfl) ?_
    refine pG_getI (ci := 7) (f := 6) rfl rfl (Or.inl rfl) hk101 (by decide) ?_
    refine pG_many 2 (pc1 := 16) (L1 := [some (.ref a0), some (.int p0), some (.int p1)]) (st1 := [.int ((Z.1 a0 6) + 1), .ref a0]) (M1 := mjTo Z) (fun _ _ => rfl) ?_
    refine pG_putI (ci := 7) (f := 6) rfl rfl rfl rfl hk101 (by decide) ?_
    rw [mjLet] at h
    generalize zSi Z a0 6 ((Z.1 a0 6) + 1) = Z103 at h ⊢
    refine pG_many 2 (pc1 := 21) (L1 := [some (.ref a0), some (.int p0), some (.int p1)]) (st1 := [.ref a0, .ref a0]) (M1 := mjTo Z103) (fun _ _ => rfl) ?_
    refine pG_getI (ci := 7) (f := 6) rfl rfl (Or.inl rfl) hk101 (by decide) ?_
    refine pG_many 2 (pc1 := 26) (L1 := [some (.ref a0), some (.int p0), some (.int p1)]) (st1 := [.int p1, .int p0, .int (Z103.1 a0 6), .ref a0]) (M1 := mjTo Z103) (fun _ _ => rfl) ?_
    cases hq104 : f9_setLeg a0 (Z103.1 a0 6) p0 p1 Z103 with
    | none => rw [hq104] at h; cases h
    | some w =>
      obtain ⟨v105, Z106⟩ := w
      rw [hq104, mjBd_some] at h
      refine pG_callV (k2 := 9) (As := [.ref a0, .int (Z103.1 a0 6), .int p0, .int p1]) (rest := []) rfl rfl rfl rfl rfl (mjRcv_is hk101 (by decide)) (by decide) (by decide) (f9_setLeg_ok hq104) ?_
      rintro r9 M9 ⟨rfl, rfl⟩
      show pG 112 29 [some (.ref a0), some (.int p0), some (.int p1)] [] (mjTo Z106) _
      simp only [Option.some.injEq, Prod.mk.injEq] at h
      obtain ⟨-, rfl⟩ := h
      exact pG_ret (r := none) rfl ⟨rfl, rfl⟩
def f123_readRuns_j122 (x1 : Nat) (x3 : Int32) (x4 : Int32) (x5 : Int32) (Z : mjZt) : Option (Int32 × mjZt) :=
  if mjIs x1 211 2 = true then
  mjBp (f8_runner x1 x3 Z) fun v121 =>
  if mjIs v121 211 7 = true then
  mjBp (f30_mostMetres x1 ((Z.1 v121 6) + 1) Z) fun v125 =>
  mjBd (f116_takeNumber 0 v125 Z) fun v128 Z129 =>
  if mjCmp .ne v128 0 = true then
    if mjCmp .eq x5 0 = true then
      mjBd (f122_addLeg v121 x4 (Z129.1 182 4) Z129) fun _ Z134 =>
      some (1, Z134)
    else
      mjBd (f122_addLeg v121 x4 (-(Z129.1 182 4)) Z129) fun _ Z137 =>
      some (1, Z137)
  else
    some (0, Z129)
  else none
  else none
theorem f123_readRuns_j122_ok (x1 : Nat) (x3 : Int32) (x4 : Int32) (x5 : Int32) (d2 d6 : Option Value) (Z : mjZt) (v9 : Int32) (Z9 : mjZt) (h : f123_readRuns_j122 x1 x3 x4 x5 Z = some (v9, Z9)) : pG 113 122 [some (.ref 182), some (.ref x1), d2, some (.int x3), some (.int x4), some (.int x5), d6] [] (mjTo Z) (fun r M1 => r = some (.int v9) ∧ M1 = mjTo Z9) := by
  unfold f123_readRuns_j122 at h
  refine pG_many 2 (pc1 := 124) (L1 := [some (.ref 182), some (.ref x1), d2, some (.int x3), some (.int x4), some (.int x5), d6]) (st1 := [.int x3, .ref x1]) (M1 := mjTo Z) (fun _ _ => rfl) ?_
  have hk119 : mjIs x1 211 2 = true := by
    by_cases q9 : mjIs x1 211 2 = true
    · exact q9
    · rw [if_neg q9] at h; cases h
  rw [if_pos hk119] at h
  cases hq120 : f8_runner x1 x3 Z with
  | none => rw [hq120] at h; cases h
  | some v121 =>
    rw [hq120, mjBp_some] at h
    refine pG_callV (k2 := 8) (As := [.ref x1, .int x3]) (rest := []) rfl rfl rfl rfl rfl (mjRcv_is hk119 (by decide)) (by decide) (by decide) (f8_runner_ok hq120) ?_
    rintro r9 M9 ⟨rfl, rfl⟩
    show pG 113 127 [some (.ref 182), some (.ref x1), d2, some (.int x3), some (.int x4), some (.int x5), d6] [.ref v121] (mjTo Z) _
    refine pG_many 5 (pc1 := 134) (L1 := [some (.ref 182), some (.ref x1), d2, some (.int x3), some (.int x4), some (.int x5), some (.ref v121)]) (st1 := [.ref v121, .ref x1, .int 0, .ref 182]) (M1 := mjTo Z) (fun _ _ => rfl) ?_
    have hk123 : mjIs v121 211 7 = true := by
      by_cases q9 : mjIs v121 211 7 = true
      · exact q9
      · rw [if_neg q9] at h; cases h
    rw [if_pos hk123] at h
    refine pG_getI (ci := 7) (f := 6) rfl rfl (Or.inl rfl) hk123 (by decide) ?_
    refine pG_many 2 (pc1 := 139) (L1 := [some (.ref 182), some (.ref x1), d2, some (.int x3), some (.int x4), some (.int x5), some (.ref v121)]) (st1 := [.int ((Z.1 v121 6) + 1), .ref x1, .int 0, .ref 182]) (M1 := mjTo Z) (fun _ _ => rfl) ?_
    cases hq124 : f30_mostMetres x1 ((Z.1 v121 6) + 1) Z with
    | none => rw [hq124] at h; cases h
    | some v125 =>
      rw [hq124, mjBp_some] at h
      refine pG_callV (k2 := 30) (As := [.ref x1, .int ((Z.1 v121 6) + 1)]) (rest := [.int 0, .ref 182]) rfl rfl rfl rfl rfl (mjRcv_is hk119 (by decide)) (by decide) (by decide) (f30_mostMetres_ok hq124) ?_
      rintro r9 M9 ⟨rfl, rfl⟩
      show pG 113 142 [some (.ref 182), some (.ref x1), d2, some (.int x3), some (.int x4), some (.int x5), some (.ref v121)] [.int v125, .int 0, .ref 182] (mjTo Z) _
      cases hq127 : f116_takeNumber 0 v125 Z with
      | none => rw [hq127] at h; cases h
      | some w =>
        obtain ⟨v128, Z129⟩ := w
        rw [hq127, mjBd_some] at h
        refine pG_callV (k2 := 106) (As := [.ref 182, .int 0, .int v125]) (rest := []) rfl rfl rfl rfl rfl (by rfl) (by decide) (by decide) (f116_takeNumber_ok hq127) ?_
        rintro r9 M9 ⟨rfl, rfl⟩
        show pG 113 145 [some (.ref 182), some (.ref x1), d2, some (.int x3), some (.int x4), some (.int x5), some (.ref v121)] [.int v128] (mjTo Z129) _
        by_cases hc130 : mjCmp .ne v128 0 = true
        · rw [if_pos hc130] at h
          refine pG_ift (t := 150) rfl rfl hc130 ?_
          refine pG_many 3 (pc1 := 156) (L1 := [some (.ref 182), some (.ref x1), d2, some (.int x3), some (.int x4), some (.int x5), some (.ref v121)]) (st1 := [.int x5, .int x4, .ref v121]) (M1 := mjTo Z129) (fun _ _ => rfl) ?_
          by_cases hc131 : mjCmp .eq x5 0 = true
          · rw [if_pos hc131] at h
            refine pG_ift (t := 167) rfl rfl hc131 ?_
            refine pG_many 1 (pc1 := 168) (L1 := [some (.ref 182), some (.ref x1), d2, some (.int x3), some (.int x4), some (.int x5), some (.ref v121)]) (st1 := [.ref 182, .int x4, .ref v121]) (M1 := mjTo Z129) (fun _ _ => rfl) ?_
            refine pG_getI (ci := 6) (f := 4) rfl rfl (Or.inl rfl) (by rfl) (by decide) ?_
            cases hq132 : f122_addLeg v121 x4 (Z129.1 182 4) Z129 with
            | none => rw [hq132] at h; cases h
            | some w =>
              obtain ⟨v133, Z134⟩ := w
              rw [hq132, mjBd_some] at h
              refine pG_callV (k2 := 112) (As := [.ref v121, .int x4, .int (Z129.1 182 4)]) (rest := []) rfl rfl rfl rfl rfl (mjRcv_is hk123 (by decide)) (by decide) (by decide) (f122_addLeg_ok hq132) ?_
              rintro r9 M9 ⟨rfl, rfl⟩
              show pG 113 174 [some (.ref 182), some (.ref x1), d2, some (.int x3), some (.int x4), some (.int x5), some (.ref v121)] [] (mjTo Z134) _
              refine pG_many 1 (pc1 := 175) (L1 := [some (.ref 182), some (.ref x1), d2, some (.int x3), some (.int x4), some (.int x5), some (.ref v121)]) (st1 := [.int 1]) (M1 := mjTo Z134) (fun _ _ => rfl) ?_
              simp only [Option.some.injEq, Prod.mk.injEq] at h
              obtain ⟨rfl, rfl⟩ := h
              exact pG_ret (r := some (.int 1)) rfl ⟨rfl, rfl⟩
          · rw [if_neg hc131] at h
            refine pG_iff (t := 167) rfl rfl hc131 ?_
            refine pG_many 1 (pc1 := 160) (L1 := [some (.ref 182), some (.ref x1), d2, some (.int x3), some (.int x4), some (.int x5), some (.ref v121)]) (st1 := [.ref 182, .int x4, .ref v121]) (M1 := mjTo Z129) (fun _ _ => rfl) ?_
            refine pG_getI (ci := 6) (f := 4) rfl rfl (Or.inl rfl) (by rfl) (by decide) ?_
            refine pG_many 2 (pc1 := 171) (L1 := [some (.ref 182), some (.ref x1), d2, some (.int x3), some (.int x4), some (.int x5), some (.ref v121)]) (st1 := [.int (-(Z129.1 182 4)), .int x4, .ref v121]) (M1 := mjTo Z129) (fun _ _ => rfl) ?_
            cases hq135 : f122_addLeg v121 x4 (-(Z129.1 182 4)) Z129 with
            | none => rw [hq135] at h; cases h
            | some w =>
              obtain ⟨v136, Z137⟩ := w
              rw [hq135, mjBd_some] at h
              refine pG_callV (k2 := 112) (As := [.ref v121, .int x4, .int (-(Z129.1 182 4))]) (rest := []) rfl rfl rfl rfl rfl (mjRcv_is hk123 (by decide)) (by decide) (by decide) (f122_addLeg_ok hq135) ?_
              rintro r9 M9 ⟨rfl, rfl⟩
              show pG 113 174 [some (.ref 182), some (.ref x1), d2, some (.int x3), some (.int x4), some (.int x5), some (.ref v121)] [] (mjTo Z137) _
              refine pG_many 1 (pc1 := 175) (L1 := [some (.ref 182), some (.ref x1), d2, some (.int x3), some (.int x4), some (.int x5), some (.ref v121)]) (st1 := [.int 1]) (M1 := mjTo Z137) (fun _ _ => rfl) ?_
              simp only [Option.some.injEq, Prod.mk.injEq] at h
              obtain ⟨rfl, rfl⟩ := h
              exact pG_ret (r := some (.int 1)) rfl ⟨rfl, rfl⟩
        · rw [if_neg hc130] at h
          refine pG_iff (t := 150) rfl rfl hc130 ?_
          refine pG_many 1 (pc1 := 149) (L1 := [some (.ref 182), some (.ref x1), d2, some (.int x3), some (.int x4), some (.int x5), some (.ref v121)]) (st1 := [.int 0]) (M1 := mjTo Z129) (fun _ _ => rfl) ?_
          simp only [Option.some.injEq, Prod.mk.injEq] at h
          obtain ⟨rfl, rfl⟩ := h
          exact pG_ret (r := some (.int 0)) rfl ⟨rfl, rfl⟩
def f123_readRuns_j108 (x1 : Nat) (x3 : Int32) (x4 : Int32) (s0 : Int32) (Z : mjZt) : Option (Int32 × mjZt) :=
  if mjCmp .eq s0 0 = true then
    f123_readRuns_j122 x1 x3 x4 s0 Z
  else
    mjBd (f68_advance  Z) fun _ Z140 =>
    f123_readRuns_j122 x1 x3 x4 s0 Z140
theorem f123_readRuns_j108_ok (x1 : Nat) (x3 : Int32) (x4 : Int32) (s0 : Int32) (d2 d5 d6 : Option Value) (Z : mjZt) (v9 : Int32) (Z9 : mjZt) (h : f123_readRuns_j108 x1 x3 x4 s0 Z = some (v9, Z9)) : pG 113 108 [some (.ref 182), some (.ref x1), d2, some (.int x3), some (.int x4), d5, d6] [.int s0] (mjTo Z) (fun r M1 => r = some (.int v9) ∧ M1 = mjTo Z9) := by
  unfold f123_readRuns_j108 at h
  refine pG_many 2 (pc1 := 112) (L1 := [some (.ref 182), some (.ref x1), d2, some (.int x3), some (.int x4), some (.int s0), d6]) (st1 := [.int s0]) (M1 := mjTo Z) (fun _ _ => rfl) ?_
  by_cases hc118 : mjCmp .eq s0 0 = true
  · rw [if_pos hc118] at h
    refine pG_ift (t := 122) rfl rfl hc118 ?_
    exact f123_readRuns_j122_ok x1 x3 x4 s0 d2 d6 Z v9 Z9 h
  · rw [if_neg hc118] at h
    refine pG_iff (t := 122) rfl rfl hc118 ?_
    refine pG_many 1 (pc1 := 116) (L1 := [some (.ref 182), some (.ref x1), d2, some (.int x3), some (.int x4), some (.int s0), d6]) (st1 := [.ref 182]) (M1 := mjTo Z) (fun _ _ => rfl) ?_
    refine pG_getR (ci := 6) (f := 0) (b := 183) rfl rfl rfl (by rfl) (by decide) rfl ?_
    cases hq138 : f68_advance  Z with
    | none => rw [hq138] at h; cases h
    | some w =>
      obtain ⟨v139, Z140⟩ := w
      rw [hq138, mjBd_some] at h
      refine pG_callV (k2 := 68) (As := [.ref 183]) (rest := []) rfl rfl rfl rfl rfl (by rfl) (by decide) (by decide) (f68_advance_ok hq138) ?_
      rintro r9 M9 ⟨rfl, rfl⟩
      show pG 113 122 [some (.ref 182), some (.ref x1), d2, some (.int x3), some (.int x4), some (.int s0), d6] [] (mjTo Z140) _
      exact f123_readRuns_j122_ok x1 x3 x4 s0 d2 d6 Z140 v9 Z9 h
def f123_readRuns_j59 (x1 : Nat) (Z : mjZt) : Option (Int32 × mjZt) :=
  mjBd (f121_takeTeam x1 ((-1)) Z) fun v110 Z111 =>
  if mjCmp .eq v110 ((-1)) = true then
    some (0, Z111)
  else
    mjBd (f116_takeNumber 20 999 Z111) fun v114 Z115 =>
    if mjCmp .ne v114 0 = true then
      if mjCmp .ne (Z115.1 183 3) 45 = true then
        f123_readRuns_j108 x1 v110 (Z115.1 182 4) 0 Z115
      else
        f123_readRuns_j108 x1 v110 (Z115.1 182 4) 1 Z115
    else
      some (0, Z115)
theorem f123_readRuns_j59_ok (x1 : Nat) (d2 d3 d4 d5 d6 : Option Value) (Z : mjZt) (v9 : Int32) (Z9 : mjZt) (h : f123_readRuns_j59 x1 Z = some (v9, Z9)) : pG 113 59 [some (.ref 182), some (.ref x1), d2, d3, d4, d5, d6] [] (mjTo Z) (fun r M1 => r = some (.int v9) ∧ M1 = mjTo Z9) := by
  unfold f123_readRuns_j59 at h
  refine pG_many 3 (pc1 := 62) (L1 := [some (.ref 182), some (.ref x1), d2, d3, d4, d5, d6]) (st1 := [.int ((-1)), .ref x1, .ref 182]) (M1 := mjTo Z) (fun _ _ => rfl) ?_
  cases hq109 : f121_takeTeam x1 ((-1)) Z with
  | none => rw [hq109] at h; cases h
  | some w =>
    obtain ⟨v110, Z111⟩ := w
    rw [hq109, mjBd_some] at h
    refine pG_callV (k2 := 111) (As := [.ref 182, .ref x1, .int ((-1))]) (rest := []) rfl rfl rfl rfl rfl (by rfl) (by decide) (by decide) (f121_takeTeam_ok hq109) ?_
    rintro r9 M9 ⟨rfl, rfl⟩
    show pG 113 65 [some (.ref 182), some (.ref x1), d2, d3, d4, d5, d6] [.int v110] (mjTo Z111) _
    refine pG_many 3 (pc1 := 68) (L1 := [some (.ref 182), some (.ref x1), (mjK1 d2), some (.int v110), d4, d5, d6]) (st1 := [.int ((-1)), .int v110]) (M1 := mjTo Z111) (fun _ _ => rfl) ?_
    by_cases hc112 : mjCmp .eq v110 ((-1)) = true
    · rw [if_pos hc112] at h
      refine pG_cmt (t := 83) rfl rfl hc112 ?_
      refine pG_many 1 (pc1 := 84) (L1 := [some (.ref 182), some (.ref x1), (mjK1 d2), some (.int v110), d4, d5, d6]) (st1 := [.int 0]) (M1 := mjTo Z111) (fun _ _ => rfl) ?_
      simp only [Option.some.injEq, Prod.mk.injEq] at h
      obtain ⟨rfl, rfl⟩ := h
      exact pG_ret (r := some (.int 0)) rfl ⟨rfl, rfl⟩
    · rw [if_neg hc112] at h
      refine pG_cmf (t := 83) rfl rfl hc112 ?_
      refine pG_many 3 (pc1 := 77) (L1 := [some (.ref 182), some (.ref x1), (mjK1 d2), some (.int v110), d4, d5, d6]) (st1 := [.int 999, .int 20, .ref 182]) (M1 := mjTo Z111) (fun _ _ => rfl) ?_
      cases hq113 : f116_takeNumber 20 999 Z111 with
      | none => rw [hq113] at h; cases h
      | some w =>
        obtain ⟨v114, Z115⟩ := w
        rw [hq113, mjBd_some] at h
        refine pG_callV (k2 := 106) (As := [.ref 182, .int 20, .int 999]) (rest := []) rfl rfl rfl rfl rfl (by rfl) (by decide) (by decide) (f116_takeNumber_ok hq113) ?_
        rintro r9 M9 ⟨rfl, rfl⟩
        show pG 113 80 [some (.ref 182), some (.ref x1), (mjK1 d2), some (.int v110), d4, d5, d6] [.int v114] (mjTo Z115) _
        by_cases hc116 : mjCmp .ne v114 0 = true
        · rw [if_pos hc116] at h
          refine pG_ift (t := 85) rfl rfl hc116 ?_
          refine pG_many 1 (pc1 := 86) (L1 := [some (.ref 182), some (.ref x1), (mjK1 d2), some (.int v110), d4, d5, d6]) (st1 := [.ref 182]) (M1 := mjTo Z115) (fun _ _ => rfl) ?_
          refine pG_getI (ci := 6) (f := 4) rfl rfl (Or.inl rfl) (by rfl) (by decide) ?_
          refine pG_many 2 (pc1 := 92) (L1 := [some (.ref 182), some (.ref x1), (mjK1 d2), some (.int v110), some (.int (Z115.1 182 4)), d5, d6]) (st1 := [.ref 182]) (M1 := mjTo Z115) (fun _ _ => rfl) ?_
          refine pG_getR (ci := 6) (f := 0) (b := 183) rfl rfl rfl (by rfl) (by decide) rfl ?_
          refine pG_getI (ci := 9) (f := 3) rfl rfl (Or.inl rfl) (by rfl) (by decide) ?_
          refine pG_many 1 (pc1 := 100) (L1 := [some (.ref 182), some (.ref x1), (mjK1 d2), some (.int v110), some (.int (Z115.1 182 4)), d5, d6]) (st1 := [.int 45, .int (Z115.1 183 3)]) (M1 := mjTo Z115) (fun _ _ => rfl) ?_
          by_cases hc117 : mjCmp .ne (Z115.1 183 3) 45 = true
          · rw [if_pos hc117] at h
            refine pG_cmt (t := 107) rfl rfl hc117 ?_
            refine pG_many 1 (pc1 := 108) (L1 := [some (.ref 182), some (.ref x1), (mjK1 d2), some (.int v110), some (.int (Z115.1 182 4)), d5, d6]) (st1 := [.int 0]) (M1 := mjTo Z115) (fun _ _ => rfl) ?_
            exact f123_readRuns_j108_ok x1 v110 (Z115.1 182 4) 0 ((mjK1 d2)) d5 d6 Z115 v9 Z9 h
          · rw [if_neg hc117] at h
            refine pG_cmf (t := 107) rfl rfl hc117 ?_
            refine pG_many 2 (pc1 := 108) (L1 := [some (.ref 182), some (.ref x1), (mjK1 d2), some (.int v110), some (.int (Z115.1 182 4)), d5, d6]) (st1 := [.int 1]) (M1 := mjTo Z115) (fun _ _ => rfl) ?_
            exact f123_readRuns_j108_ok x1 v110 (Z115.1 182 4) 1 ((mjK1 d2)) d5 d6 Z115 v9 Z9 h
        · rw [if_neg hc116] at h
          refine pG_iff (t := 85) rfl rfl hc116 ?_
          refine pG_many 1 (pc1 := 84) (L1 := [some (.ref 182), some (.ref x1), (mjK1 d2), some (.int v110), d4, d5, d6]) (st1 := [.int 0]) (M1 := mjTo Z115) (fun _ _ => rfl) ?_
          simp only [Option.some.injEq, Prod.mk.injEq] at h
          obtain ⟨rfl, rfl⟩ := h
          exact pG_ret (r := some (.int 0)) rfl ⟨rfl, rfl⟩
def f123_readRuns_j32 (x1 : Nat) (s0 : Int32) (Z : mjZt) : Option (Int32 × mjZt) :=
  if mjCmp .eq s0 ((-1)) = true then
    f123_readRuns_j59 x1 Z
  else
    if mjIs x1 211 2 = true then
    mjBp (f8_runner x1 s0 Z) fun v143 =>
    if mjIs v143 211 7 = true then
    if mjCmp .lt (Z.1 v143 6) (Z.1 x1 0) = true then
      f123_readRuns_j59 x1 Z
    else
      mjBd (f114_fail 5 Z) fun v148 Z149 =>
      if v148 = 0 ∨ v148 = 1 then
      some (v148, Z149)
      else none
    else none
    else none
theorem f123_readRuns_j32_ok (x1 : Nat) (s0 : Int32) (d2 d3 d4 d5 d6 : Option Value) (Z : mjZt) (v9 : Int32) (Z9 : mjZt) (h : f123_readRuns_j32 x1 s0 Z = some (v9, Z9)) : pG 113 32 [some (.ref 182), some (.ref x1), d2, d3, d4, d5, d6] [.int s0] (mjTo Z) (fun r M1 => r = some (.int v9) ∧ M1 = mjTo Z9) := by
  unfold f123_readRuns_j32 at h
  refine pG_many 3 (pc1 := 35) (L1 := [some (.ref 182), some (.ref x1), some (.int s0), d3, d4, d5, d6]) (st1 := [.int ((-1)), .int s0]) (M1 := mjTo Z) (fun _ _ => rfl) ?_
  by_cases hc108 : mjCmp .eq s0 ((-1)) = true
  · rw [if_pos hc108] at h
    refine pG_cmt (t := 59) rfl rfl hc108 ?_
    exact f123_readRuns_j59_ok x1 (some (.int s0)) d3 d4 d5 d6 Z v9 Z9 h
  · rw [if_neg hc108] at h
    refine pG_cmf (t := 59) rfl rfl hc108 ?_
    refine pG_many 2 (pc1 := 40) (L1 := [some (.ref 182), some (.ref x1), some (.int s0), d3, d4, d5, d6]) (st1 := [.int s0, .ref x1]) (M1 := mjTo Z) (fun _ _ => rfl) ?_
    have hk141 : mjIs x1 211 2 = true := by
      by_cases q9 : mjIs x1 211 2 = true
      · exact q9
      · rw [if_neg q9] at h; cases h
    rw [if_pos hk141] at h
    cases hq142 : f8_runner x1 s0 Z with
    | none => rw [hq142] at h; cases h
    | some v143 =>
      rw [hq142, mjBp_some] at h
      refine pG_callV (k2 := 8) (As := [.ref x1, .int s0]) (rest := []) rfl rfl rfl rfl rfl (mjRcv_is hk141 (by decide)) (by decide) (by decide) (f8_runner_ok hq142) ?_
      rintro r9 M9 ⟨rfl, rfl⟩
      show pG 113 43 [some (.ref 182), some (.ref x1), some (.int s0), d3, d4, d5, d6] [.ref v143] (mjTo Z) _
      have hk145 : mjIs v143 211 7 = true := by
        by_cases q9 : mjIs v143 211 7 = true
        · exact q9
        · rw [if_neg q9] at h; cases h
      rw [if_pos hk145] at h
      refine pG_getI (ci := 7) (f := 6) rfl rfl (Or.inl rfl) hk145 (by decide) ?_
      refine pG_many 1 (pc1 := 47) (L1 := [some (.ref 182), some (.ref x1), some (.int s0), d3, d4, d5, d6]) (st1 := [.ref x1, .int (Z.1 v143 6)]) (M1 := mjTo Z) (fun _ _ => rfl) ?_
      refine pG_getI (ci := 2) (f := 0) rfl rfl (Or.inl rfl) hk141 (by decide) ?_
      by_cases hc146 : mjCmp .lt (Z.1 v143 6) (Z.1 x1 0) = true
      · rw [if_pos hc146] at h
        refine pG_cmt (t := 59) rfl rfl hc146 ?_
        exact f123_readRuns_j59_ok x1 (some (.int s0)) d3 d4 d5 d6 Z v9 Z9 h
      · rw [if_neg hc146] at h
        refine pG_cmf (t := 59) rfl rfl hc146 ?_
        refine pG_many 2 (pc1 := 55) (L1 := [some (.ref 182), some (.ref x1), some (.int s0), d3, d4, d5, d6]) (st1 := [.int 5, .ref 182]) (M1 := mjTo Z) (fun _ _ => rfl) ?_
        cases hq147 : f114_fail 5 Z with
        | none => rw [hq147] at h; cases h
        | some w =>
          obtain ⟨v148, Z149⟩ := w
          rw [hq147, mjBd_some] at h
          refine pG_callV (k2 := 104) (As := [.ref 182, .int 5]) (rest := []) rfl rfl rfl rfl rfl (by rfl) (by decide) (by decide) (f114_fail_ok hq147) ?_
          rintro r9 M9 ⟨rfl, rfl⟩
          show pG 113 58 [some (.ref 182), some (.ref x1), some (.int s0), d3, d4, d5, d6] [.int v148] (mjTo Z149) _
          have hk150 : v148 = 0 ∨ v148 = 1 := by
            by_cases q9 : v148 = 0 ∨ v148 = 1
            · exact q9
            · rw [if_neg q9] at h; cases h
          rw [if_pos hk150] at h
          simp only [Option.some.injEq, Prod.mk.injEq] at h
          obtain ⟨rfl, rfl⟩ := h
          exact pG_ret (r := some (.int v148)) (mjRt1_z rfl rfl hk150) ⟨rfl, rfl⟩
def f123_readRuns (p0 : Nat) (Z : mjZt) : Option (Int32 × mjZt) :=
  mjBd (f68_advance  Z) fun _ Z103 =>
  mjBp (f119_isName  Z103) fun v105 =>
  if mjCmp .eq v105 0 = true then
    f123_readRuns_j32 p0 ((-1)) Z103
  else
    if mjIs p0 211 2 = true then
    mjBp (f25_teamOfName p0 (Z103.2.1 183 6) Z103) fun v153 =>
    f123_readRuns_j32 p0 v153 Z103
    else none
theorem f123_readRuns_ok {p0 : Nat} {Z : mjZt} {v9 : Int32} {Z9 : mjZt} (h : f123_readRuns p0 Z = some (v9, Z9)) : pG 113 0 (mjEnt [.ref 182, .ref p0] (mjML 113)) [] (mjTo Z) (fun r M1 => r = some (.int v9) ∧ M1 = mjTo Z9) := by
  unfold f123_readRuns at h
  show pG 113 0 [some (.ref 182), some (.ref p0), none, none, none, none, none] [] (mjTo Z) _
  refine pG_many 1 (pc1 := 1) (L1 := [some (.ref 182), some (.ref p0), none, none, none, none, none]) (st1 := [.ref 182]) (M1 := mjTo Z) (fun _ _ => rfl) ?_
  refine pG_getR (ci := 6) (f := 0) (b := 183) rfl rfl rfl (by rfl) (by decide) rfl ?_
  cases hq101 : f68_advance  Z with
  | none => rw [hq101] at h; cases h
  | some w =>
    obtain ⟨v102, Z103⟩ := w
    rw [hq101, mjBd_some] at h
    refine pG_callV (k2 := 68) (As := [.ref 183]) (rest := []) rfl rfl rfl rfl rfl (by rfl) (by decide) (by decide) (f68_advance_ok hq101) ?_
    rintro r9 M9 ⟨rfl, rfl⟩
    show pG 113 7 [some (.ref 182), some (.ref p0), none, none, none, none, none] [] (mjTo Z103) _
    refine pG_many 1 (pc1 := 8) (L1 := [some (.ref 182), some (.ref p0), none, none, none, none, none]) (st1 := [.ref 182]) (M1 := mjTo Z103) (fun _ _ => rfl) ?_
    refine pG_getR (ci := 6) (f := 0) (b := 183) rfl rfl rfl (by rfl) (by decide) rfl ?_
    cases hq104 : f119_isName  Z103 with
    | none => rw [hq104] at h; cases h
    | some v105 =>
      rw [hq104, mjBp_some] at h
      refine pG_callV (k2 := 109) (As := [.ref 183]) (rest := []) rfl rfl rfl rfl rfl (by rfl) (by decide) (by decide) (f119_isName_ok hq104) ?_
      rintro r9 M9 ⟨rfl, rfl⟩
      show pG 113 14 [some (.ref 182), some (.ref p0), none, none, none, none, none] [.int v105] (mjTo Z103) _
      by_cases hc107 : mjCmp .eq v105 0 = true
      · rw [if_pos hc107] at h
        refine pG_ift (t := 31) rfl rfl hc107 ?_
        refine pG_many 1 (pc1 := 32) (L1 := [some (.ref 182), some (.ref p0), none, none, none, none, none]) (st1 := [.int ((-1))]) (M1 := mjTo Z103) (fun _ _ => rfl) ?_
        exact f123_readRuns_j32_ok p0 ((-1)) none none none none none Z103 v9 Z9 h
      · rw [if_neg hc107] at h
        refine pG_iff (t := 31) rfl rfl hc107 ?_
        refine pG_many 2 (pc1 := 19) (L1 := [some (.ref 182), some (.ref p0), none, none, none, none, none]) (st1 := [.ref 182, .ref p0]) (M1 := mjTo Z103) (fun _ _ => rfl) ?_
        refine pG_getR (ci := 6) (f := 0) (b := 183) rfl rfl rfl (by rfl) (by decide) rfl ?_
        refine pG_getL (ci := 9) (f := 6) rfl rfl rfl (by rfl) (by decide) ?_
        have hk151 : mjIs p0 211 2 = true := by
          by_cases q9 : mjIs p0 211 2 = true
          · exact q9
          · rw [if_neg q9] at h; cases h
        rw [if_pos hk151] at h
        cases hq152 : f25_teamOfName p0 (Z103.2.1 183 6) Z103 with
        | none => rw [hq152] at h; cases h
        | some v153 =>
          rw [hq152, mjBp_some] at h
          refine pG_callV (k2 := 25) (As := [.ref p0, .long (Z103.2.1 183 6)]) (rest := []) rfl rfl rfl rfl rfl (mjRcv_is hk151 (by decide)) (by decide) (by decide) (f25_teamOfName_ok hq152) ?_
          rintro r9 M9 ⟨rfl, rfl⟩
          show pG 113 28 [some (.ref 182), some (.ref p0), none, none, none, none, none] [.int v153] (mjTo Z103) _
          refine pG_many 1 (pc1 := 32) (L1 := [some (.ref 182), some (.ref p0), none, none, none, none, none]) (st1 := [.int v153]) (M1 := mjTo Z103) (fun _ _ => rfl) ?_
          exact f123_readRuns_j32_ok p0 v153 none none none none none Z103 v9 Z9 h
def f124_readAct_j84 (x1 : Nat) (x2 : Int32) (x3 : Int32) (s0 : Int32) (Z : mjZt) : Option (Int32 × mjZt) :=
  if mjCmp .ne (Z.1 182 5) 0 = true then
    some (0, Z)
  else
    mjBd (f116_takeNumber 0 9999 Z) fun v125 Z126 =>
    if mjCmp .ne v125 0 = true then
      mjBd (f116_takeNumber 0 99 Z126) fun v129 Z130 =>
      if mjCmp .ne v129 0 = true then
        if mjIs x1 211 2 = true then
        mjBd (f28_addAct x1 x2 x3 s0 (Z126.1 182 4) (Z130.1 182 4) Z130) fun _ Z135 =>
        some (1, Z135)
        else none
      else
        some (0, Z130)
    else
      some (0, Z126)
theorem f124_readAct_j84_ok (x1 : Nat) (x2 : Int32) (x3 : Int32) (s0 : Int32) (d4 d5 : Option Value) (Z : mjZt) (v9 : Int32) (Z9 : mjZt) (h : f124_readAct_j84 x1 x2 x3 s0 Z = some (v9, Z9)) : pG 114 84 [some (.ref 182), some (.ref x1), some (.int x2), some (.int x3), d4, d5] [.int s0] (mjTo Z) (fun r M1 => r = some (.int v9) ∧ M1 = mjTo Z9) := by
  unfold f124_readAct_j84 at h
  refine pG_many 2 (pc1 := 87) (L1 := [some (.ref 182), some (.ref x1), some (.int x2), some (.int x3), some (.int s0), d5]) (st1 := [.ref 182]) (M1 := mjTo Z) (fun _ _ => rfl) ?_
  refine pG_getI (ci := 6) (f := 5) rfl rfl (Or.inl rfl) (by rfl) (by decide) ?_
  by_cases hc123 : mjCmp .ne (Z.1 182 5) 0 = true
  · rw [if_pos hc123] at h
    refine pG_ift (t := 104) rfl rfl hc123 ?_
    refine pG_many 1 (pc1 := 105) (L1 := [some (.ref 182), some (.ref x1), some (.int x2), some (.int x3), some (.int s0), d5]) (st1 := [.int 0]) (M1 := mjTo Z) (fun _ _ => rfl) ?_
    simp only [Option.some.injEq, Prod.mk.injEq] at h
    obtain ⟨rfl, rfl⟩ := h
    exact pG_ret (r := some (.int 0)) rfl ⟨rfl, rfl⟩
  · rw [if_neg hc123] at h
    refine pG_iff (t := 104) rfl rfl hc123 ?_
    refine pG_many 3 (pc1 := 98) (L1 := [some (.ref 182), some (.ref x1), some (.int x2), some (.int x3), some (.int s0), d5]) (st1 := [.int 9999, .int 0, .ref 182]) (M1 := mjTo Z) (fun _ _ => rfl) ?_
    cases hq124 : f116_takeNumber 0 9999 Z with
    | none => rw [hq124] at h; cases h
    | some w =>
      obtain ⟨v125, Z126⟩ := w
      rw [hq124, mjBd_some] at h
      refine pG_callV (k2 := 106) (As := [.ref 182, .int 0, .int 9999]) (rest := []) rfl rfl rfl rfl rfl (by rfl) (by decide) (by decide) (f116_takeNumber_ok hq124) ?_
      rintro r9 M9 ⟨rfl, rfl⟩
      show pG 114 101 [some (.ref 182), some (.ref x1), some (.int x2), some (.int x3), some (.int s0), d5] [.int v125] (mjTo Z126) _
      by_cases hc127 : mjCmp .ne v125 0 = true
      · rw [if_pos hc127] at h
        refine pG_ift (t := 106) rfl rfl hc127 ?_
        refine pG_many 1 (pc1 := 107) (L1 := [some (.ref 182), some (.ref x1), some (.int x2), some (.int x3), some (.int s0), d5]) (st1 := [.ref 182]) (M1 := mjTo Z126) (fun _ _ => rfl) ?_
        refine pG_getI (ci := 6) (f := 4) rfl rfl (Or.inl rfl) (by rfl) (by decide) ?_
        refine pG_many 4 (pc1 := 116) (L1 := [some (.ref 182), some (.ref x1), some (.int x2), some (.int x3), some (.int s0), some (.int (Z126.1 182 4))]) (st1 := [.int 99, .int 0, .ref 182]) (M1 := mjTo Z126) (fun _ _ => rfl) ?_
        cases hq128 : f116_takeNumber 0 99 Z126 with
        | none => rw [hq128] at h; cases h
        | some w =>
          obtain ⟨v129, Z130⟩ := w
          rw [hq128, mjBd_some] at h
          refine pG_callV (k2 := 106) (As := [.ref 182, .int 0, .int 99]) (rest := []) rfl rfl rfl rfl rfl (by rfl) (by decide) (by decide) (f116_takeNumber_ok hq128) ?_
          rintro r9 M9 ⟨rfl, rfl⟩
          show pG 114 119 [some (.ref 182), some (.ref x1), some (.int x2), some (.int x3), some (.int s0), some (.int (Z126.1 182 4))] [.int v129] (mjTo Z130) _
          by_cases hc131 : mjCmp .ne v129 0 = true
          · rw [if_pos hc131] at h
            refine pG_ift (t := 124) rfl rfl hc131 ?_
            refine pG_many 6 (pc1 := 132) (L1 := [some (.ref 182), some (.ref x1), some (.int x2), some (.int x3), some (.int s0), some (.int (Z126.1 182 4))]) (st1 := [.ref 182, .int (Z126.1 182 4), .int s0, .int x3, .int x2, .ref x1]) (M1 := mjTo Z130) (fun _ _ => rfl) ?_
            refine pG_getI (ci := 6) (f := 4) rfl rfl (Or.inl rfl) (by rfl) (by decide) ?_
            have hk132 : mjIs x1 211 2 = true := by
              by_cases q9 : mjIs x1 211 2 = true
              · exact q9
              · rw [if_neg q9] at h; cases h
            rw [if_pos hk132] at h
            cases hq133 : f28_addAct x1 x2 x3 s0 (Z126.1 182 4) (Z130.1 182 4) Z130 with
            | none => rw [hq133] at h; cases h
            | some w =>
              obtain ⟨v134, Z135⟩ := w
              rw [hq133, mjBd_some] at h
              refine pG_callV (k2 := 28) (As := [.ref x1, .int x2, .int x3, .int s0, .int (Z126.1 182 4), .int (Z130.1 182 4)]) (rest := []) rfl rfl rfl rfl rfl (mjRcv_is hk132 (by decide)) (by decide) (by decide) (f28_addAct_ok hq133) ?_
              rintro r9 M9 ⟨rfl, rfl⟩
              show pG 114 138 [some (.ref 182), some (.ref x1), some (.int x2), some (.int x3), some (.int s0), some (.int (Z126.1 182 4))] [] (mjTo Z135) _
              refine pG_many 1 (pc1 := 139) (L1 := [some (.ref 182), some (.ref x1), some (.int x2), some (.int x3), some (.int s0), some (.int (Z126.1 182 4))]) (st1 := [.int 1]) (M1 := mjTo Z135) (fun _ _ => rfl) ?_
              simp only [Option.some.injEq, Prod.mk.injEq] at h
              obtain ⟨rfl, rfl⟩ := h
              exact pG_ret (r := some (.int 1)) rfl ⟨rfl, rfl⟩
          · rw [if_neg hc131] at h
            refine pG_iff (t := 124) rfl rfl hc131 ?_
            refine pG_many 1 (pc1 := 123) (L1 := [some (.ref 182), some (.ref x1), some (.int x2), some (.int x3), some (.int s0), some (.int (Z126.1 182 4))]) (st1 := [.int 0]) (M1 := mjTo Z130) (fun _ _ => rfl) ?_
            simp only [Option.some.injEq, Prod.mk.injEq] at h
            obtain ⟨rfl, rfl⟩ := h
            exact pG_ret (r := some (.int 0)) rfl ⟨rfl, rfl⟩
      · rw [if_neg hc127] at h
        refine pG_iff (t := 106) rfl rfl hc127 ?_
        refine pG_many 1 (pc1 := 105) (L1 := [some (.ref 182), some (.ref x1), some (.int x2), some (.int x3), some (.int s0), d5]) (st1 := [.int 0]) (M1 := mjTo Z126) (fun _ _ => rfl) ?_
        simp only [Option.some.injEq, Prod.mk.injEq] at h
        obtain ⟨rfl, rfl⟩ := h
        exact pG_ret (r := some (.int 0)) rfl ⟨rfl, rfl⟩
def f124_readAct (p0 : Nat) (Z : mjZt) : Option (Int32 × mjZt) :=
  if mjIs p0 211 2 = true then
  if mjCmp .lt (Z.1 p0 6) 12 = true then
    mjBd (f68_advance  Z) fun _ Z105 =>
    mjBp (f51_indexIn 1000003 Z105) fun v107 =>
    if mjCmp .eq v107 ((-1)) = true then
      mjBd (f114_fail 2 Z105) fun v111 Z112 =>
      if v111 = 0 ∨ v111 = 1 then
      some (v111, Z112)
      else none
    else
      if mjCmp .ne v107 4 = true then
        mjBd (f68_advance  Z105) fun _ Z117 =>
        mjBd (f121_takeTeam p0 ((-1)) Z117) fun v119 Z120 =>
        if mjCmp .ne v119 ((-1)) = true then
          if mjCmp .ne v107 3 = true then
            f124_readAct_j84 p0 v107 v119 ((-1)) Z120
          else
            mjBd (f121_takeTeam p0 v119 Z120) fun v137 Z138 =>
            f124_readAct_j84 p0 v107 v119 v137 Z138
        else
          some (0, Z120)
      else
        mjBd (f114_fail 2 Z105) fun v140 Z141 =>
        if v140 = 0 ∨ v140 = 1 then
        some (v140, Z141)
        else none
  else
    mjBd (f114_fail 5 Z) fun v144 Z145 =>
    if v144 = 0 ∨ v144 = 1 then
    some (v144, Z145)
    else none
  else none
theorem f124_readAct_ok {p0 : Nat} {Z : mjZt} {v9 : Int32} {Z9 : mjZt} (h : f124_readAct p0 Z = some (v9, Z9)) : pG 114 0 (mjEnt [.ref 182, .ref p0] (mjML 114)) [] (mjTo Z) (fun r M1 => r = some (.int v9) ∧ M1 = mjTo Z9) := by
  unfold f124_readAct at h
  show pG 114 0 [some (.ref 182), some (.ref p0), none, none, none, none] [] (mjTo Z) _
  refine pG_many 1 (pc1 := 1) (L1 := [some (.ref 182), some (.ref p0), none, none, none, none]) (st1 := [.ref p0]) (M1 := mjTo Z) (fun _ _ => rfl) ?_
  have hk101 : mjIs p0 211 2 = true := by
    by_cases q9 : mjIs p0 211 2 = true
    · exact q9
    · rw [if_neg q9] at h; cases h
  rw [if_pos hk101] at h
  refine pG_getI (ci := 2) (f := 6) rfl rfl (Or.inl rfl) hk101 (by decide) ?_
  refine pG_many 1 (pc1 := 6) (L1 := [some (.ref 182), some (.ref p0), none, none, none, none]) (st1 := [.int 12, .int (Z.1 p0 6)]) (M1 := mjTo Z) (fun _ _ => rfl) ?_
  by_cases hc102 : mjCmp .lt (Z.1 p0 6) 12 = true
  · rw [if_pos hc102] at h
    refine pG_cmt (t := 15) rfl rfl hc102 ?_
    refine pG_many 1 (pc1 := 16) (L1 := [some (.ref 182), some (.ref p0), none, none, none, none]) (st1 := [.ref 182]) (M1 := mjTo Z) (fun _ _ => rfl) ?_
    refine pG_getR (ci := 6) (f := 0) (b := 183) rfl rfl rfl (by rfl) (by decide) rfl ?_
    cases hq103 : f68_advance  Z with
    | none => rw [hq103] at h; cases h
    | some w =>
      obtain ⟨v104, Z105⟩ := w
      rw [hq103, mjBd_some] at h
      refine pG_callV (k2 := 68) (As := [.ref 183]) (rest := []) rfl rfl rfl rfl rfl (by rfl) (by decide) (by decide) (f68_advance_ok hq103) ?_
      rintro r9 M9 ⟨rfl, rfl⟩
      show pG 114 22 [some (.ref 182), some (.ref p0), none, none, none, none] [] (mjTo Z105) _
      refine pG_many 1 (pc1 := 23) (L1 := [some (.ref 182), some (.ref p0), none, none, none, none]) (st1 := [.ref 182]) (M1 := mjTo Z105) (fun _ _ => rfl) ?_
      refine pG_getR (ci := 6) (f := 0) (b := 183) rfl rfl rfl (by rfl) (by decide) rfl ?_
      refine pG_many 1 (pc1 := 28) (L1 := [some (.ref 182), some (.ref p0), none, none, none, none]) (st1 := [.ref 1000003, .ref 183]) (M1 := mjTo Z105) (fun _ _ => rfl) ?_
      cases hq106 : f51_indexIn 1000003 Z105 with
      | none => rw [hq106] at h; cases h
      | some v107 =>
        rw [hq106, mjBp_some] at h
        refine pG_callV (k2 := 51) (As := [.ref 183, .ref 1000003]) (rest := []) rfl rfl rfl rfl rfl (by rfl) (by decide) (by decide) (f51_indexIn_ok hq106) ?_
        rintro r9 M9 ⟨rfl, rfl⟩
        show pG 114 31 [some (.ref 182), some (.ref p0), none, none, none, none] [.int v107] (mjTo Z105) _
        refine pG_many 3 (pc1 := 34) (L1 := [some (.ref 182), some (.ref p0), some (.int v107), none, none, none]) (st1 := [.int ((-1)), .int v107]) (M1 := mjTo Z105) (fun _ _ => rfl) ?_
        by_cases hc109 : mjCmp .eq v107 ((-1)) = true
        · rw [if_pos hc109] at h
          refine pG_cmt (t := 42) rfl rfl hc109 ?_
          refine pG_many 2 (pc1 := 44) (L1 := [some (.ref 182), some (.ref p0), some (.int v107), none, none, none]) (st1 := [.int 2, .ref 182]) (M1 := mjTo Z105) (fun _ _ => rfl) ?_
          cases hq110 : f114_fail 2 Z105 with
          | none => rw [hq110] at h; cases h
          | some w =>
            obtain ⟨v111, Z112⟩ := w
            rw [hq110, mjBd_some] at h
            refine pG_callV (k2 := 104) (As := [.ref 182, .int 2]) (rest := []) rfl rfl rfl rfl rfl (by rfl) (by decide) (by decide) (f114_fail_ok hq110) ?_
            rintro r9 M9 ⟨rfl, rfl⟩
            show pG 114 47 [some (.ref 182), some (.ref p0), some (.int v107), none, none, none] [.int v111] (mjTo Z112) _
            have hk113 : v111 = 0 ∨ v111 = 1 := by
              by_cases q9 : v111 = 0 ∨ v111 = 1
              · exact q9
              · rw [if_neg q9] at h; cases h
            rw [if_pos hk113] at h
            simp only [Option.some.injEq, Prod.mk.injEq] at h
            obtain ⟨rfl, rfl⟩ := h
            exact pG_ret (r := some (.int v111)) (mjRt1_z rfl rfl hk113) ⟨rfl, rfl⟩
        · rw [if_neg hc109] at h
          refine pG_cmf (t := 42) rfl rfl hc109 ?_
          refine pG_many 2 (pc1 := 39) (L1 := [some (.ref 182), some (.ref p0), some (.int v107), none, none, none]) (st1 := [.int 4, .int v107]) (M1 := mjTo Z105) (fun _ _ => rfl) ?_
          by_cases hc114 : mjCmp .ne v107 4 = true
          · rw [if_pos hc114] at h
            refine pG_cmt (t := 48) rfl rfl hc114 ?_
            refine pG_many 1 (pc1 := 49) (L1 := [some (.ref 182), some (.ref p0), some (.int v107), none, none, none]) (st1 := [.ref 182]) (M1 := mjTo Z105) (fun _ _ => rfl) ?_
            refine pG_getR (ci := 6) (f := 0) (b := 183) rfl rfl rfl (by rfl) (by decide) rfl ?_
            cases hq115 : f68_advance  Z105 with
            | none => rw [hq115] at h; cases h
            | some w =>
              obtain ⟨v116, Z117⟩ := w
              rw [hq115, mjBd_some] at h
              refine pG_callV (k2 := 68) (As := [.ref 183]) (rest := []) rfl rfl rfl rfl rfl (by rfl) (by decide) (by decide) (f68_advance_ok hq115) ?_
              rintro r9 M9 ⟨rfl, rfl⟩
              show pG 114 55 [some (.ref 182), some (.ref p0), some (.int v107), none, none, none] [] (mjTo Z117) _
              refine pG_many 3 (pc1 := 58) (L1 := [some (.ref 182), some (.ref p0), some (.int v107), none, none, none]) (st1 := [.int ((-1)), .ref p0, .ref 182]) (M1 := mjTo Z117) (fun _ _ => rfl) ?_
              cases hq118 : f121_takeTeam p0 ((-1)) Z117 with
              | none => rw [hq118] at h; cases h
              | some w =>
                obtain ⟨v119, Z120⟩ := w
                rw [hq118, mjBd_some] at h
                refine pG_callV (k2 := 111) (As := [.ref 182, .ref p0, .int ((-1))]) (rest := []) rfl rfl rfl rfl rfl (by rfl) (by decide) (by decide) (f121_takeTeam_ok hq118) ?_
                rintro r9 M9 ⟨rfl, rfl⟩
                show pG 114 61 [some (.ref 182), some (.ref p0), some (.int v107), none, none, none] [.int v119] (mjTo Z120) _
                refine pG_many 3 (pc1 := 64) (L1 := [some (.ref 182), some (.ref p0), some (.int v107), some (.int v119), none, none]) (st1 := [.int ((-1)), .int v119]) (M1 := mjTo Z120) (fun _ _ => rfl) ?_
                by_cases hc121 : mjCmp .ne v119 ((-1)) = true
                · rw [if_pos hc121] at h
                  refine pG_cmt (t := 69) rfl rfl hc121 ?_
                  refine pG_many 2 (pc1 := 71) (L1 := [some (.ref 182), some (.ref p0), some (.int v107), some (.int v119), none, none]) (st1 := [.int 3, .int v107]) (M1 := mjTo Z120) (fun _ _ => rfl) ?_
                  by_cases hc122 : mjCmp .ne v107 3 = true
                  · rw [if_pos hc122] at h
                    refine pG_cmt (t := 83) rfl rfl hc122 ?_
                    refine pG_many 1 (pc1 := 84) (L1 := [some (.ref 182), some (.ref p0), some (.int v107), some (.int v119), none, none]) (st1 := [.int ((-1))]) (M1 := mjTo Z120) (fun _ _ => rfl) ?_
                    exact f124_readAct_j84_ok p0 v107 v119 ((-1)) none none Z120 v9 Z9 h
                  · rw [if_neg hc122] at h
                    refine pG_cmf (t := 83) rfl rfl hc122 ?_
                    refine pG_many 3 (pc1 := 77) (L1 := [some (.ref 182), some (.ref p0), some (.int v107), some (.int v119), none, none]) (st1 := [.int v119, .ref p0, .ref 182]) (M1 := mjTo Z120) (fun _ _ => rfl) ?_
                    cases hq136 : f121_takeTeam p0 v119 Z120 with
                    | none => rw [hq136] at h; cases h
                    | some w =>
                      obtain ⟨v137, Z138⟩ := w
                      rw [hq136, mjBd_some] at h
                      refine pG_callV (k2 := 111) (As := [.ref 182, .ref p0, .int v119]) (rest := []) rfl rfl rfl rfl rfl (by rfl) (by decide) (by decide) (f121_takeTeam_ok hq136) ?_
                      rintro r9 M9 ⟨rfl, rfl⟩
                      show pG 114 80 [some (.ref 182), some (.ref p0), some (.int v107), some (.int v119), none, none] [.int v137] (mjTo Z138) _
                      refine pG_many 1 (pc1 := 84) (L1 := [some (.ref 182), some (.ref p0), some (.int v107), some (.int v119), none, none]) (st1 := [.int v137]) (M1 := mjTo Z138) (fun _ _ => rfl) ?_
                      exact f124_readAct_j84_ok p0 v107 v119 v137 none none Z138 v9 Z9 h
                · rw [if_neg hc121] at h
                  refine pG_cmf (t := 69) rfl rfl hc121 ?_
                  refine pG_many 1 (pc1 := 68) (L1 := [some (.ref 182), some (.ref p0), some (.int v107), some (.int v119), none, none]) (st1 := [.int 0]) (M1 := mjTo Z120) (fun _ _ => rfl) ?_
                  simp only [Option.some.injEq, Prod.mk.injEq] at h
                  obtain ⟨rfl, rfl⟩ := h
                  exact pG_ret (r := some (.int 0)) rfl ⟨rfl, rfl⟩
          · rw [if_neg hc114] at h
            refine pG_cmf (t := 48) rfl rfl hc114 ?_
            refine pG_many 2 (pc1 := 44) (L1 := [some (.ref 182), some (.ref p0), some (.int v107), none, none, none]) (st1 := [.int 2, .ref 182]) (M1 := mjTo Z105) (fun _ _ => rfl) ?_
            cases hq139 : f114_fail 2 Z105 with
            | none => rw [hq139] at h; cases h
            | some w =>
              obtain ⟨v140, Z141⟩ := w
              rw [hq139, mjBd_some] at h
              refine pG_callV (k2 := 104) (As := [.ref 182, .int 2]) (rest := []) rfl rfl rfl rfl rfl (by rfl) (by decide) (by decide) (f114_fail_ok hq139) ?_
              rintro r9 M9 ⟨rfl, rfl⟩
              show pG 114 47 [some (.ref 182), some (.ref p0), some (.int v107), none, none, none] [.int v140] (mjTo Z141) _
              have hk142 : v140 = 0 ∨ v140 = 1 := by
                by_cases q9 : v140 = 0 ∨ v140 = 1
                · exact q9
                · rw [if_neg q9] at h; cases h
              rw [if_pos hk142] at h
              simp only [Option.some.injEq, Prod.mk.injEq] at h
              obtain ⟨rfl, rfl⟩ := h
              exact pG_ret (r := some (.int v140)) (mjRt1_z rfl rfl hk142) ⟨rfl, rfl⟩
  · rw [if_neg hc102] at h
    refine pG_cmf (t := 15) rfl rfl hc102 ?_
    refine pG_many 2 (pc1 := 11) (L1 := [some (.ref 182), some (.ref p0), none, none, none, none]) (st1 := [.int 5, .ref 182]) (M1 := mjTo Z) (fun _ _ => rfl) ?_
    cases hq143 : f114_fail 5 Z with
    | none => rw [hq143] at h; cases h
    | some w =>
      obtain ⟨v144, Z145⟩ := w
      rw [hq143, mjBd_some] at h
      refine pG_callV (k2 := 104) (As := [.ref 182, .int 5]) (rest := []) rfl rfl rfl rfl rfl (by rfl) (by decide) (by decide) (f114_fail_ok hq143) ?_
      rintro r9 M9 ⟨rfl, rfl⟩
      show pG 114 14 [some (.ref 182), some (.ref p0), none, none, none, none] [.int v144] (mjTo Z145) _
      have hk146 : v144 = 0 ∨ v144 = 1 := by
        by_cases q9 : v144 = 0 ∨ v144 = 1
        · exact q9
        · rw [if_neg q9] at h; cases h
      rw [if_pos hk146] at h
      simp only [Option.some.injEq, Prod.mk.injEq] at h
      obtain ⟨rfl, rfl⟩ := h
      exact pG_ret (r := some (.int v144)) (mjRt1_z rfl rfl hk146) ⟨rfl, rfl⟩
def f125_readRule_j190 (x1 : Nat) (x2 : Int64) (x4 : Int32) (x5 : Int32) (Z : mjZt) : Option (Int32 × mjZt) :=
  if mjCmp .eq x5 0 = true then
    if mjIs x1 211 2 = true then
    mjBd (f29_addRule x1 x2 x4 Z) fun _ Z139 =>
    some (1, Z139)
    else none
  else
    mjBd (f114_fail x5 Z) fun v141 Z142 =>
    if v141 = 0 ∨ v141 = 1 then
    some (v141, Z142)
    else none
theorem f125_readRule_j190_ok (x1 : Nat) (x2 : Int64) (x4 : Int32) (x5 : Int32) (d3 : Option Value) (Z : mjZt) (v9 : Int32) (Z9 : mjZt) (h : f125_readRule_j190 x1 x2 x4 x5 Z = some (v9, Z9)) : pG 115 190 [some (.ref 182), some (.ref x1), some (.long x2), d3, some (.int x4), some (.int x5)] [] (mjTo Z) (fun r M1 => r = some (.int v9) ∧ M1 = mjTo Z9) := by
  unfold f125_readRule_j190 at h
  refine pG_many 1 (pc1 := 192) (L1 := [some (.ref 182), some (.ref x1), some (.long x2), d3, some (.int x4), some (.int x5)]) (st1 := [.int x5]) (M1 := mjTo Z) (fun _ _ => rfl) ?_
  by_cases hc135 : mjCmp .eq x5 0 = true
  · rw [if_pos hc135] at h
    refine pG_ift (t := 202) rfl rfl hc135 ?_
    refine pG_many 3 (pc1 := 206) (L1 := [some (.ref 182), some (.ref x1), some (.long x2), d3, some (.int x4), some (.int x5)]) (st1 := [.int x4, .long x2, .ref x1]) (M1 := mjTo Z) (fun _ _ => rfl) ?_
    have hk136 : mjIs x1 211 2 = true := by
      by_cases q9 : mjIs x1 211 2 = true
      · exact q9
      · rw [if_neg q9] at h; cases h
    rw [if_pos hk136] at h
    cases hq137 : f29_addRule x1 x2 x4 Z with
    | none => rw [hq137] at h; cases h
    | some w =>
      obtain ⟨v138, Z139⟩ := w
      rw [hq137, mjBd_some] at h
      refine pG_callV (k2 := 29) (As := [.ref x1, .long x2, .int x4]) (rest := []) rfl rfl rfl rfl rfl (mjRcv_is hk136 (by decide)) (by decide) (by decide) (f29_addRule_ok hq137) ?_
      rintro r9 M9 ⟨rfl, rfl⟩
      show pG 115 209 [some (.ref 182), some (.ref x1), some (.long x2), d3, some (.int x4), some (.int x5)] [] (mjTo Z139) _
      refine pG_many 1 (pc1 := 210) (L1 := [some (.ref 182), some (.ref x1), some (.long x2), d3, some (.int x4), some (.int x5)]) (st1 := [.int 1]) (M1 := mjTo Z139) (fun _ _ => rfl) ?_
      simp only [Option.some.injEq, Prod.mk.injEq] at h
      obtain ⟨rfl, rfl⟩ := h
      exact pG_ret (r := some (.int 1)) rfl ⟨rfl, rfl⟩
  · rw [if_neg hc135] at h
    refine pG_iff (t := 202) rfl rfl hc135 ?_
    refine pG_many 2 (pc1 := 198) (L1 := [some (.ref 182), some (.ref x1), some (.long x2), d3, some (.int x4), some (.int x5)]) (st1 := [.int x5, .ref 182]) (M1 := mjTo Z) (fun _ _ => rfl) ?_
    cases hq140 : f114_fail x5 Z with
    | none => rw [hq140] at h; cases h
    | some w =>
      obtain ⟨v141, Z142⟩ := w
      rw [hq140, mjBd_some] at h
      refine pG_callV (k2 := 104) (As := [.ref 182, .int x5]) (rest := []) rfl rfl rfl rfl rfl (by rfl) (by decide) (by decide) (f114_fail_ok hq140) ?_
      rintro r9 M9 ⟨rfl, rfl⟩
      show pG 115 201 [some (.ref 182), some (.ref x1), some (.long x2), d3, some (.int x4), some (.int x5)] [.int v141] (mjTo Z142) _
      have hk143 : v141 = 0 ∨ v141 = 1 := by
        by_cases q9 : v141 = 0 ∨ v141 = 1
        · exact q9
        · rw [if_neg q9] at h; cases h
      rw [if_pos hk143] at h
      simp only [Option.some.injEq, Prod.mk.injEq] at h
      obtain ⟨rfl, rfl⟩ := h
      exact pG_ret (r := some (.int v141)) (mjRt1_z rfl rfl hk143) ⟨rfl, rfl⟩
def f125_readRule (p0 : Nat) (Z : mjZt) : Option (Int32 × mjZt) :=
  if mjIs p0 211 2 = true then
  if mjCmp .lt (Z.1 p0 8) 8 = true then
    mjBd (f68_advance  Z) fun _ Z105 =>
    mjBp (f119_isName  Z105) fun v107 =>
    if mjCmp .ne v107 0 = true then
      mjBp (f26_isNameTaken p0 (Z105.2.1 183 6) Z105) fun v111 =>
      if mjCmp .eq v111 0 = true then
        mjBd (f68_advance  Z105) fun _ Z116 =>
        mjBp (f51_indexIn 1000003 Z116) fun v118 =>
        if mjCmp .ne v118 ((-1)) = true then
          mjBd (f68_advance  Z116) fun _ Z123 =>
          mjBd (f115_takeWord 1000004 0 Z123) fun v125 Z126 =>
          if mjCmp .ne v125 0 = true then
            mjBp (f76_condition (Z126.1 p0 8) 0 Z126) fun v129 =>
            mjBd (f69_read (p0 + 1) v129 Z126) fun v132 Z133 =>
            if mjCmp .ne v132 0 = true then
              f125_readRule_j190 p0 (Z105.2.1 183 6) v118 v132 Z133
            else
              mjBp (f51_indexIn 1000004 Z133) fun v145 =>
              if mjCmp .ne v145 1 = true then
                f125_readRule_j190 p0 (Z105.2.1 183 6) v118 v132 Z133
              else
                mjBd (f68_advance  Z133) fun _ Z150 =>
                mjBp (f76_condition (Z150.1 p0 8) 1 Z150) fun v152 =>
                mjBd (f69_read (p0 + 1) v152 Z150) fun v155 Z156 =>
                f125_readRule_j190 p0 (Z105.2.1 183 6) v118 v155 Z156
          else
            some (0, Z126)
        else
          mjBd (f114_fail 2 Z116) fun v158 Z159 =>
          if v158 = 0 ∨ v158 = 1 then
          some (v158, Z159)
          else none
      else
        mjBd (f114_fail 3 Z105) fun v162 Z163 =>
        if v162 = 0 ∨ v162 = 1 then
        some (v162, Z163)
        else none
    else
      mjBd (f114_fail 2 Z105) fun v166 Z167 =>
      if v166 = 0 ∨ v166 = 1 then
      some (v166, Z167)
      else none
  else
    mjBd (f114_fail 5 Z) fun v170 Z171 =>
    if v170 = 0 ∨ v170 = 1 then
    some (v170, Z171)
    else none
  else none
theorem f125_readRule_ok {p0 : Nat} {Z : mjZt} {v9 : Int32} {Z9 : mjZt} (h : f125_readRule p0 Z = some (v9, Z9)) : pG 115 0 (mjEnt [.ref 182, .ref p0] (mjML 115)) [] (mjTo Z) (fun r M1 => r = some (.int v9) ∧ M1 = mjTo Z9) := by
  unfold f125_readRule at h
  show pG 115 0 [some (.ref 182), some (.ref p0), none, none, none, none] [] (mjTo Z) _
  refine pG_many 1 (pc1 := 1) (L1 := [some (.ref 182), some (.ref p0), none, none, none, none]) (st1 := [.ref p0]) (M1 := mjTo Z) (fun _ _ => rfl) ?_
  have hk101 : mjIs p0 211 2 = true := by
    by_cases q9 : mjIs p0 211 2 = true
    · exact q9
    · rw [if_neg q9] at h; cases h
  rw [if_pos hk101] at h
  refine pG_getI (ci := 2) (f := 8) rfl rfl (Or.inl rfl) hk101 (by decide) ?_
  refine pG_many 1 (pc1 := 6) (L1 := [some (.ref 182), some (.ref p0), none, none, none, none]) (st1 := [.int 8, .int (Z.1 p0 8)]) (M1 := mjTo Z) (fun _ _ => rfl) ?_
  by_cases hc102 : mjCmp .lt (Z.1 p0 8) 8 = true
  · rw [if_pos hc102] at h
    refine pG_cmt (t := 15) rfl rfl hc102 ?_
    refine pG_many 1 (pc1 := 16) (L1 := [some (.ref 182), some (.ref p0), none, none, none, none]) (st1 := [.ref 182]) (M1 := mjTo Z) (fun _ _ => rfl) ?_
    refine pG_getR (ci := 6) (f := 0) (b := 183) rfl rfl rfl (by rfl) (by decide) rfl ?_
    cases hq103 : f68_advance  Z with
    | none => rw [hq103] at h; cases h
    | some w =>
      obtain ⟨v104, Z105⟩ := w
      rw [hq103, mjBd_some] at h
      refine pG_callV (k2 := 68) (As := [.ref 183]) (rest := []) rfl rfl rfl rfl rfl (by rfl) (by decide) (by decide) (f68_advance_ok hq103) ?_
      rintro r9 M9 ⟨rfl, rfl⟩
      show pG 115 22 [some (.ref 182), some (.ref p0), none, none, none, none] [] (mjTo Z105) _
      refine pG_many 1 (pc1 := 23) (L1 := [some (.ref 182), some (.ref p0), none, none, none, none]) (st1 := [.ref 182]) (M1 := mjTo Z105) (fun _ _ => rfl) ?_
      refine pG_getR (ci := 6) (f := 0) (b := 183) rfl rfl rfl (by rfl) (by decide) rfl ?_
      cases hq106 : f119_isName  Z105 with
      | none => rw [hq106] at h; cases h
      | some v107 =>
        rw [hq106, mjBp_some] at h
        refine pG_callV (k2 := 109) (As := [.ref 183]) (rest := []) rfl rfl rfl rfl rfl (by rfl) (by decide) (by decide) (f119_isName_ok hq106) ?_
        rintro r9 M9 ⟨rfl, rfl⟩
        show pG 115 29 [some (.ref 182), some (.ref p0), none, none, none, none] [.int v107] (mjTo Z105) _
        by_cases hc109 : mjCmp .ne v107 0 = true
        · rw [if_pos hc109] at h
          refine pG_ift (t := 38) rfl rfl hc109 ?_
          refine pG_many 2 (pc1 := 40) (L1 := [some (.ref 182), some (.ref p0), none, none, none, none]) (st1 := [.ref 182, .ref p0]) (M1 := mjTo Z105) (fun _ _ => rfl) ?_
          refine pG_getR (ci := 6) (f := 0) (b := 183) rfl rfl rfl (by rfl) (by decide) rfl ?_
          refine pG_getL (ci := 9) (f := 6) rfl rfl rfl (by rfl) (by decide) ?_
          cases hq110 : f26_isNameTaken p0 (Z105.2.1 183 6) Z105 with
          | none => rw [hq110] at h; cases h
          | some v111 =>
            rw [hq110, mjBp_some] at h
            refine pG_callV (k2 := 26) (As := [.ref p0, .long (Z105.2.1 183 6)]) (rest := []) rfl rfl rfl rfl rfl (mjRcv_is hk101 (by decide)) (by decide) (by decide) (f26_isNameTaken_ok hq110) ?_
            rintro r9 M9 ⟨rfl, rfl⟩
            show pG 115 49 [some (.ref 182), some (.ref p0), none, none, none, none] [.int v111] (mjTo Z105) _
            by_cases hc113 : mjCmp .eq v111 0 = true
            · rw [if_pos hc113] at h
              refine pG_ift (t := 58) rfl rfl hc113 ?_
              refine pG_many 1 (pc1 := 59) (L1 := [some (.ref 182), some (.ref p0), none, none, none, none]) (st1 := [.ref 182]) (M1 := mjTo Z105) (fun _ _ => rfl) ?_
              refine pG_getR (ci := 6) (f := 0) (b := 183) rfl rfl rfl (by rfl) (by decide) rfl ?_
              refine pG_getL (ci := 9) (f := 6) rfl rfl rfl (by rfl) (by decide) ?_
              refine pG_many 2 (pc1 := 67) (L1 := [some (.ref 182), some (.ref p0), some (.long (Z105.2.1 183 6)), none, none, none]) (st1 := [.ref 182]) (M1 := mjTo Z105) (fun _ _ => rfl) ?_
              refine pG_getR (ci := 6) (f := 0) (b := 183) rfl rfl rfl (by rfl) (by decide) rfl ?_
              cases hq114 : f68_advance  Z105 with
              | none => rw [hq114] at h; cases h
              | some w =>
                obtain ⟨v115, Z116⟩ := w
                rw [hq114, mjBd_some] at h
                refine pG_callV (k2 := 68) (As := [.ref 183]) (rest := []) rfl rfl rfl rfl rfl (by rfl) (by decide) (by decide) (f68_advance_ok hq114) ?_
                rintro r9 M9 ⟨rfl, rfl⟩
                show pG 115 73 [some (.ref 182), some (.ref p0), some (.long (Z105.2.1 183 6)), none, none, none] [] (mjTo Z116) _
                refine pG_many 1 (pc1 := 74) (L1 := [some (.ref 182), some (.ref p0), some (.long (Z105.2.1 183 6)), none, none, none]) (st1 := [.ref 182]) (M1 := mjTo Z116) (fun _ _ => rfl) ?_
                refine pG_getR (ci := 6) (f := 0) (b := 183) rfl rfl rfl (by rfl) (by decide) rfl ?_
                refine pG_many 1 (pc1 := 79) (L1 := [some (.ref 182), some (.ref p0), some (.long (Z105.2.1 183 6)), none, none, none]) (st1 := [.ref 1000003, .ref 183]) (M1 := mjTo Z116) (fun _ _ => rfl) ?_
                cases hq117 : f51_indexIn 1000003 Z116 with
                | none => rw [hq117] at h; cases h
                | some v118 =>
                  rw [hq117, mjBp_some] at h
                  refine pG_callV (k2 := 51) (As := [.ref 183, .ref 1000003]) (rest := []) rfl rfl rfl rfl rfl (by rfl) (by decide) (by decide) (f51_indexIn_ok hq117) ?_
                  rintro r9 M9 ⟨rfl, rfl⟩
                  show pG 115 82 [some (.ref 182), some (.ref p0), some (.long (Z105.2.1 183 6)), none, none, none] [.int v118] (mjTo Z116) _
                  refine pG_many 3 (pc1 := 87) (L1 := [some (.ref 182), some (.ref p0), some (.long (Z105.2.1 183 6)), none, some (.int v118), none]) (st1 := [.int ((-1)), .int v118]) (M1 := mjTo Z116) (fun _ _ => rfl) ?_
                  by_cases hc120 : mjCmp .ne v118 ((-1)) = true
                  · rw [if_pos hc120] at h
                    refine pG_cmt (t := 96) rfl rfl hc120 ?_
                    refine pG_many 1 (pc1 := 97) (L1 := [some (.ref 182), some (.ref p0), some (.long (Z105.2.1 183 6)), none, some (.int v118), none]) (st1 := [.ref 182]) (M1 := mjTo Z116) (fun _ _ => rfl) ?_
                    refine pG_getR (ci := 6) (f := 0) (b := 183) rfl rfl rfl (by rfl) (by decide) rfl ?_
                    cases hq121 : f68_advance  Z116 with
                    | none => rw [hq121] at h; cases h
                    | some w =>
                      obtain ⟨v122, Z123⟩ := w
                      rw [hq121, mjBd_some] at h
                      refine pG_callV (k2 := 68) (As := [.ref 183]) (rest := []) rfl rfl rfl rfl rfl (by rfl) (by decide) (by decide) (f68_advance_ok hq121) ?_
                      rintro r9 M9 ⟨rfl, rfl⟩
                      show pG 115 103 [some (.ref 182), some (.ref p0), some (.long (Z105.2.1 183 6)), none, some (.int v118), none] [] (mjTo Z123) _
                      refine pG_many 3 (pc1 := 107) (L1 := [some (.ref 182), some (.ref p0), some (.long (Z105.2.1 183 6)), none, some (.int v118), none]) (st1 := [.int 0, .ref 1000004, .ref 182]) (M1 := mjTo Z123) (fun _ _ => rfl) ?_
                      cases hq124 : f115_takeWord 1000004 0 Z123 with
                      | none => rw [hq124] at h; cases h
                      | some w =>
                        obtain ⟨v125, Z126⟩ := w
                        rw [hq124, mjBd_some] at h
                        refine pG_callV (k2 := 105) (As := [.ref 182, .ref 1000004, .int 0]) (rest := []) rfl rfl rfl rfl rfl (by rfl) (by decide) (by decide) (f115_takeWord_ok hq124) ?_
                        rintro r9 M9 ⟨rfl, rfl⟩
                        show pG 115 110 [some (.ref 182), some (.ref p0), some (.long (Z105.2.1 183 6)), none, some (.int v118), none] [.int v125] (mjTo Z126) _
                        by_cases hc127 : mjCmp .ne v125 0 = true
                        · rw [if_pos hc127] at h
                          refine pG_ift (t := 115) rfl rfl hc127 ?_
                          refine pG_many 1 (pc1 := 116) (L1 := [some (.ref 182), some (.ref p0), some (.long (Z105.2.1 183 6)), none, some (.int v118), none]) (st1 := [.ref 182]) (M1 := mjTo Z126) (fun _ _ => rfl) ?_
                          refine pG_getR (ci := 6) (f := 1) (b := 185) rfl rfl rfl (by rfl) (by decide) rfl ?_
                          refine pG_many 1 (pc1 := 120) (L1 := [some (.ref 182), some (.ref p0), some (.long (Z105.2.1 183 6)), none, some (.int v118), none]) (st1 := [.ref 182, .ref 185]) (M1 := mjTo Z126) (fun _ _ => rfl) ?_
                          refine pG_getR (ci := 6) (f := 0) (b := 183) rfl rfl rfl (by rfl) (by decide) rfl ?_
                          refine pG_many 1 (pc1 := 124) (L1 := [some (.ref 182), some (.ref p0), some (.long (Z105.2.1 183 6)), none, some (.int v118), none]) (st1 := [.ref p0, .ref 183, .ref 185]) (M1 := mjTo Z126) (fun _ _ => rfl) ?_
                          refine pG_getR (ci := 2) (f := 12) (b := p0 + 1) rfl rfl rfl hk101 (by decide) (mjRc2_12 hk101) ?_
                          refine pG_many 1 (pc1 := 128) (L1 := [some (.ref 182), some (.ref p0), some (.long (Z105.2.1 183 6)), none, some (.int v118), none]) (st1 := [.ref p0, .ref (p0 + 1), .ref 183, .ref 185]) (M1 := mjTo Z126) (fun _ _ => rfl) ?_
                          refine pG_getI (ci := 2) (f := 8) rfl rfl (Or.inl rfl) hk101 (by decide) ?_
                          refine pG_many 1 (pc1 := 132) (L1 := [some (.ref 182), some (.ref p0), some (.long (Z105.2.1 183 6)), none, some (.int v118), none]) (st1 := [.int 0, .int (Z126.1 p0 8), .ref (p0 + 1), .ref 183, .ref 185]) (M1 := mjTo Z126) (fun _ _ => rfl) ?_
                          cases hq128 : f76_condition (Z126.1 p0 8) 0 Z126 with
                          | none => rw [hq128] at h; cases h
                          | some v129 =>
                            rw [hq128, mjBp_some] at h
                            refine pG_call (k2 := 75) (As := [.int (Z126.1 p0 8), .int 0]) (rest := [.ref (p0 + 1), .ref 183, .ref 185]) (fun _ _ => rfl) (by decide) (by decide) (f76_condition_ok hq128) ?_
                            rintro r9 M9 ⟨rfl, rfl⟩
                            show pG 115 135 [some (.ref 182), some (.ref p0), some (.long (Z105.2.1 183 6)), none, some (.int v118), none] [.int v129, .ref (p0 + 1), .ref 183, .ref 185] (mjTo Z126) _
                            cases hq131 : f69_read (p0 + 1) v129 Z126 with
                            | none => rw [hq131] at h; cases h
                            | some w =>
                              obtain ⟨v132, Z133⟩ := w
                              rw [hq131, mjBd_some] at h
                              refine pG_callV (k2 := 69) (As := [.ref 185, .ref 183, .ref (p0 + 1), .int v129]) (rest := []) rfl rfl rfl rfl rfl (by rfl) (by decide) (by decide) (f69_read_ok hq131) ?_
                              rintro r9 M9 ⟨rfl, rfl⟩
                              show pG 115 138 [some (.ref 182), some (.ref p0), some (.long (Z105.2.1 183 6)), none, some (.int v118), none] [.int v132] (mjTo Z133) _
                              refine pG_many 2 (pc1 := 142) (L1 := [some (.ref 182), some (.ref p0), some (.long (Z105.2.1 183 6)), none, some (.int v118), some (.int v132)]) (st1 := [.int v132]) (M1 := mjTo Z133) (fun _ _ => rfl) ?_
                              by_cases hc134 : mjCmp .ne v132 0 = true
                              · rw [if_pos hc134] at h
                                refine pG_ift (t := 190) rfl rfl hc134 ?_
                                exact f125_readRule_j190_ok p0 (Z105.2.1 183 6) v118 v132 none Z133 v9 Z9 h
                              · rw [if_neg hc134] at h
                                refine pG_iff (t := 190) rfl rfl hc134 ?_
                                refine pG_many 1 (pc1 := 146) (L1 := [some (.ref 182), some (.ref p0), some (.long (Z105.2.1 183 6)), none, some (.int v118), some (.int v132)]) (st1 := [.ref 182]) (M1 := mjTo Z133) (fun _ _ => rfl) ?_
                                refine pG_getR (ci := 6) (f := 0) (b := 183) rfl rfl rfl (by rfl) (by decide) rfl ?_
                                refine pG_many 1 (pc1 := 151) (L1 := [some (.ref 182), some (.ref p0), some (.long (Z105.2.1 183 6)), none, some (.int v118), some (.int v132)]) (st1 := [.ref 1000004, .ref 183]) (M1 := mjTo Z133) (fun _ _ => rfl) ?_
                                cases hq144 : f51_indexIn 1000004 Z133 with
                                | none => rw [hq144] at h; cases h
                                | some v145 =>
                                  rw [hq144, mjBp_some] at h
                                  refine pG_callV (k2 := 51) (As := [.ref 183, .ref 1000004]) (rest := []) rfl rfl rfl rfl rfl (by rfl) (by decide) (by decide) (f51_indexIn_ok hq144) ?_
                                  rintro r9 M9 ⟨rfl, rfl⟩
                                  show pG 115 154 [some (.ref 182), some (.ref p0), some (.long (Z105.2.1 183 6)), none, some (.int v118), some (.int v132)] [.int v145] (mjTo Z133) _
                                  refine pG_many 1 (pc1 := 155) (L1 := [some (.ref 182), some (.ref p0), some (.long (Z105.2.1 183 6)), none, some (.int v118), some (.int v132)]) (st1 := [.int 1, .int v145]) (M1 := mjTo Z133) (fun _ _ => rfl) ?_
                                  by_cases hc147 : mjCmp .ne v145 1 = true
                                  · rw [if_pos hc147] at h
                                    refine pG_cmt (t := 190) rfl rfl hc147 ?_
                                    exact f125_readRule_j190_ok p0 (Z105.2.1 183 6) v118 v132 none Z133 v9 Z9 h
                                  · rw [if_neg hc147] at h
                                    refine pG_cmf (t := 190) rfl rfl hc147 ?_
                                    refine pG_many 1 (pc1 := 159) (L1 := [some (.ref 182), some (.ref p0), some (.long (Z105.2.1 183 6)), none, some (.int v118), some (.int v132)]) (st1 := [.ref 182]) (M1 := mjTo Z133) (fun _ _ => rfl) ?_
                                    refine pG_getR (ci := 6) (f := 0) (b := 183) rfl rfl rfl (by rfl) (by decide) rfl ?_
                                    cases hq148 : f68_advance  Z133 with
                                    | none => rw [hq148] at h; cases h
                                    | some w =>
                                      obtain ⟨v149, Z150⟩ := w
                                      rw [hq148, mjBd_some] at h
                                      refine pG_callV (k2 := 68) (As := [.ref 183]) (rest := []) rfl rfl rfl rfl rfl (by rfl) (by decide) (by decide) (f68_advance_ok hq148) ?_
                                      rintro r9 M9 ⟨rfl, rfl⟩
                                      show pG 115 165 [some (.ref 182), some (.ref p0), some (.long (Z105.2.1 183 6)), none, some (.int v118), some (.int v132)] [] (mjTo Z150) _
                                      refine pG_many 1 (pc1 := 166) (L1 := [some (.ref 182), some (.ref p0), some (.long (Z105.2.1 183 6)), none, some (.int v118), some (.int v132)]) (st1 := [.ref 182]) (M1 := mjTo Z150) (fun _ _ => rfl) ?_
                                      refine pG_getR (ci := 6) (f := 1) (b := 185) rfl rfl rfl (by rfl) (by decide) rfl ?_
                                      refine pG_many 1 (pc1 := 170) (L1 := [some (.ref 182), some (.ref p0), some (.long (Z105.2.1 183 6)), none, some (.int v118), some (.int v132)]) (st1 := [.ref 182, .ref 185]) (M1 := mjTo Z150) (fun _ _ => rfl) ?_
                                      refine pG_getR (ci := 6) (f := 0) (b := 183) rfl rfl rfl (by rfl) (by decide) rfl ?_
                                      refine pG_many 1 (pc1 := 174) (L1 := [some (.ref 182), some (.ref p0), some (.long (Z105.2.1 183 6)), none, some (.int v118), some (.int v132)]) (st1 := [.ref p0, .ref 183, .ref 185]) (M1 := mjTo Z150) (fun _ _ => rfl) ?_
                                      refine pG_getR (ci := 2) (f := 12) (b := p0 + 1) rfl rfl rfl hk101 (by decide) (mjRc2_12 hk101) ?_
                                      refine pG_many 1 (pc1 := 178) (L1 := [some (.ref 182), some (.ref p0), some (.long (Z105.2.1 183 6)), none, some (.int v118), some (.int v132)]) (st1 := [.ref p0, .ref (p0 + 1), .ref 183, .ref 185]) (M1 := mjTo Z150) (fun _ _ => rfl) ?_
                                      refine pG_getI (ci := 2) (f := 8) rfl rfl (Or.inl rfl) hk101 (by decide) ?_
                                      refine pG_many 1 (pc1 := 182) (L1 := [some (.ref 182), some (.ref p0), some (.long (Z105.2.1 183 6)), none, some (.int v118), some (.int v132)]) (st1 := [.int 1, .int (Z150.1 p0 8), .ref (p0 + 1), .ref 183, .ref 185]) (M1 := mjTo Z150) (fun _ _ => rfl) ?_
                                      cases hq151 : f76_condition (Z150.1 p0 8) 1 Z150 with
                                      | none => rw [hq151] at h; cases h
                                      | some v152 =>
                                        rw [hq151, mjBp_some] at h
                                        refine pG_call (k2 := 75) (As := [.int (Z150.1 p0 8), .int 1]) (rest := [.ref (p0 + 1), .ref 183, .ref 185]) (fun _ _ => rfl) (by decide) (by decide) (f76_condition_ok hq151) ?_
                                        rintro r9 M9 ⟨rfl, rfl⟩
                                        show pG 115 185 [some (.ref 182), some (.ref p0), some (.long (Z105.2.1 183 6)), none, some (.int v118), some (.int v132)] [.int v152, .ref (p0 + 1), .ref 183, .ref 185] (mjTo Z150) _
                                        cases hq154 : f69_read (p0 + 1) v152 Z150 with
                                        | none => rw [hq154] at h; cases h
                                        | some w =>
                                          obtain ⟨v155, Z156⟩ := w
                                          rw [hq154, mjBd_some] at h
                                          refine pG_callV (k2 := 69) (As := [.ref 185, .ref 183, .ref (p0 + 1), .int v152]) (rest := []) rfl rfl rfl rfl rfl (by rfl) (by decide) (by decide) (f69_read_ok hq154) ?_
                                          rintro r9 M9 ⟨rfl, rfl⟩
                                          show pG 115 188 [some (.ref 182), some (.ref p0), some (.long (Z105.2.1 183 6)), none, some (.int v118), some (.int v132)] [.int v155] (mjTo Z156) _
                                          refine pG_many 1 (pc1 := 190) (L1 := [some (.ref 182), some (.ref p0), some (.long (Z105.2.1 183 6)), none, some (.int v118), some (.int v155)]) (st1 := []) (M1 := mjTo Z156) (fun _ _ => rfl) ?_
                                          exact f125_readRule_j190_ok p0 (Z105.2.1 183 6) v118 v155 none Z156 v9 Z9 h
                        · rw [if_neg hc127] at h
                          refine pG_iff (t := 115) rfl rfl hc127 ?_
                          refine pG_many 1 (pc1 := 114) (L1 := [some (.ref 182), some (.ref p0), some (.long (Z105.2.1 183 6)), none, some (.int v118), none]) (st1 := [.int 0]) (M1 := mjTo Z126) (fun _ _ => rfl) ?_
                          simp only [Option.some.injEq, Prod.mk.injEq] at h
                          obtain ⟨rfl, rfl⟩ := h
                          exact pG_ret (r := some (.int 0)) rfl ⟨rfl, rfl⟩
                  · rw [if_neg hc120] at h
                    refine pG_cmf (t := 96) rfl rfl hc120 ?_
                    refine pG_many 2 (pc1 := 92) (L1 := [some (.ref 182), some (.ref p0), some (.long (Z105.2.1 183 6)), none, some (.int v118), none]) (st1 := [.int 2, .ref 182]) (M1 := mjTo Z116) (fun _ _ => rfl) ?_
                    cases hq157 : f114_fail 2 Z116 with
                    | none => rw [hq157] at h; cases h
                    | some w =>
                      obtain ⟨v158, Z159⟩ := w
                      rw [hq157, mjBd_some] at h
                      refine pG_callV (k2 := 104) (As := [.ref 182, .int 2]) (rest := []) rfl rfl rfl rfl rfl (by rfl) (by decide) (by decide) (f114_fail_ok hq157) ?_
                      rintro r9 M9 ⟨rfl, rfl⟩
                      show pG 115 95 [some (.ref 182), some (.ref p0), some (.long (Z105.2.1 183 6)), none, some (.int v118), none] [.int v158] (mjTo Z159) _
                      have hk160 : v158 = 0 ∨ v158 = 1 := by
                        by_cases q9 : v158 = 0 ∨ v158 = 1
                        · exact q9
                        · rw [if_neg q9] at h; cases h
                      rw [if_pos hk160] at h
                      simp only [Option.some.injEq, Prod.mk.injEq] at h
                      obtain ⟨rfl, rfl⟩ := h
                      exact pG_ret (r := some (.int v158)) (mjRt1_z rfl rfl hk160) ⟨rfl, rfl⟩
            · rw [if_neg hc113] at h
              refine pG_iff (t := 58) rfl rfl hc113 ?_
              refine pG_many 2 (pc1 := 54) (L1 := [some (.ref 182), some (.ref p0), none, none, none, none]) (st1 := [.int 3, .ref 182]) (M1 := mjTo Z105) (fun _ _ => rfl) ?_
              cases hq161 : f114_fail 3 Z105 with
              | none => rw [hq161] at h; cases h
              | some w =>
                obtain ⟨v162, Z163⟩ := w
                rw [hq161, mjBd_some] at h
                refine pG_callV (k2 := 104) (As := [.ref 182, .int 3]) (rest := []) rfl rfl rfl rfl rfl (by rfl) (by decide) (by decide) (f114_fail_ok hq161) ?_
                rintro r9 M9 ⟨rfl, rfl⟩
                show pG 115 57 [some (.ref 182), some (.ref p0), none, none, none, none] [.int v162] (mjTo Z163) _
                have hk164 : v162 = 0 ∨ v162 = 1 := by
                  by_cases q9 : v162 = 0 ∨ v162 = 1
                  · exact q9
                  · rw [if_neg q9] at h; cases h
                rw [if_pos hk164] at h
                simp only [Option.some.injEq, Prod.mk.injEq] at h
                obtain ⟨rfl, rfl⟩ := h
                exact pG_ret (r := some (.int v162)) (mjRt1_z rfl rfl hk164) ⟨rfl, rfl⟩
        · rw [if_neg hc109] at h
          refine pG_iff (t := 38) rfl rfl hc109 ?_
          refine pG_many 2 (pc1 := 34) (L1 := [some (.ref 182), some (.ref p0), none, none, none, none]) (st1 := [.int 2, .ref 182]) (M1 := mjTo Z105) (fun _ _ => rfl) ?_
          cases hq165 : f114_fail 2 Z105 with
          | none => rw [hq165] at h; cases h
          | some w =>
            obtain ⟨v166, Z167⟩ := w
            rw [hq165, mjBd_some] at h
            refine pG_callV (k2 := 104) (As := [.ref 182, .int 2]) (rest := []) rfl rfl rfl rfl rfl (by rfl) (by decide) (by decide) (f114_fail_ok hq165) ?_
            rintro r9 M9 ⟨rfl, rfl⟩
            show pG 115 37 [some (.ref 182), some (.ref p0), none, none, none, none] [.int v166] (mjTo Z167) _
            have hk168 : v166 = 0 ∨ v166 = 1 := by
              by_cases q9 : v166 = 0 ∨ v166 = 1
              · exact q9
              · rw [if_neg q9] at h; cases h
            rw [if_pos hk168] at h
            simp only [Option.some.injEq, Prod.mk.injEq] at h
            obtain ⟨rfl, rfl⟩ := h
            exact pG_ret (r := some (.int v166)) (mjRt1_z rfl rfl hk168) ⟨rfl, rfl⟩
  · rw [if_neg hc102] at h
    refine pG_cmf (t := 15) rfl rfl hc102 ?_
    refine pG_many 2 (pc1 := 11) (L1 := [some (.ref 182), some (.ref p0), none, none, none, none]) (st1 := [.int 5, .ref 182]) (M1 := mjTo Z) (fun _ _ => rfl) ?_
    cases hq169 : f114_fail 5 Z with
    | none => rw [hq169] at h; cases h
    | some w =>
      obtain ⟨v170, Z171⟩ := w
      rw [hq169, mjBd_some] at h
      refine pG_callV (k2 := 104) (As := [.ref 182, .int 5]) (rest := []) rfl rfl rfl rfl rfl (by rfl) (by decide) (by decide) (f114_fail_ok hq169) ?_
      rintro r9 M9 ⟨rfl, rfl⟩
      show pG 115 14 [some (.ref 182), some (.ref p0), none, none, none, none] [.int v170] (mjTo Z171) _
      have hk172 : v170 = 0 ∨ v170 = 1 := by
        by_cases q9 : v170 = 0 ∨ v170 = 1
        · exact q9
        · rw [if_neg q9] at h; cases h
      rw [if_pos hk172] at h
      simp only [Option.some.injEq, Prod.mk.injEq] at h
      obtain ⟨rfl, rfl⟩ := h
      exact pG_ret (r := some (.int v170)) (mjRt1_z rfl rfl hk172) ⟨rfl, rfl⟩
def f126_readThrough (p0 : Nat) (Z : mjZt) : Option (Int32 × mjZt) :=
  if mjCmp .eq (Z.1 182 2) 0 = true then
    mjBd (f68_advance  Z) fun _ Z104 =>
    mjBd (f116_takeNumber 1 6 Z104) fun v106 Z107 =>
    if mjCmp .ne v106 0 = true then
      mjLet (zSi Z107 182 2 1) fun Z109 =>
      if mjIs p0 211 2 = true then
      mjLet (zSi Z109 p0 9 (Z109.1 182 4)) fun Z111 =>
      some (1, Z111)
      else none
    else
      some (0, Z107)
  else
    mjBd (f114_fail 6 Z) fun v113 Z114 =>
    if v113 = 0 ∨ v113 = 1 then
    some (v113, Z114)
    else none
theorem f126_readThrough_ok {p0 : Nat} {Z : mjZt} {v9 : Int32} {Z9 : mjZt} (h : f126_readThrough p0 Z = some (v9, Z9)) : pG 116 0 (mjEnt [.ref 182, .ref p0] (mjML 116)) [] (mjTo Z) (fun r M1 => r = some (.int v9) ∧ M1 = mjTo Z9) := by
  unfold f126_readThrough at h
  show pG 116 0 [some (.ref 182), some (.ref p0)] [] (mjTo Z) _
  refine pG_many 1 (pc1 := 1) (L1 := [some (.ref 182), some (.ref p0)]) (st1 := [.ref 182]) (M1 := mjTo Z) (fun _ _ => rfl) ?_
  refine pG_getI (ci := 6) (f := 2) rfl rfl (Or.inr rfl) (by rfl) (by decide) ?_
  by_cases hc101 : mjCmp .eq (Z.1 182 2) 0 = true
  · rw [if_pos hc101] at h
    refine pG_ift (t := 14) rfl rfl hc101 ?_
    refine pG_many 1 (pc1 := 15) (L1 := [some (.ref 182), some (.ref p0)]) (st1 := [.ref 182]) (M1 := mjTo Z) (fun _ _ => rfl) ?_
    refine pG_getR (ci := 6) (f := 0) (b := 183) rfl rfl rfl (by rfl) (by decide) rfl ?_
    cases hq102 : f68_advance  Z with
    | none => rw [hq102] at h; cases h
    | some w =>
      obtain ⟨v103, Z104⟩ := w
      rw [hq102, mjBd_some] at h
      refine pG_callV (k2 := 68) (As := [.ref 183]) (rest := []) rfl rfl rfl rfl rfl (by rfl) (by decide) (by decide) (f68_advance_ok hq102) ?_
      rintro r9 M9 ⟨rfl, rfl⟩
      show pG 116 21 [some (.ref 182), some (.ref p0)] [] (mjTo Z104) _
      refine pG_many 3 (pc1 := 25) (L1 := [some (.ref 182), some (.ref p0)]) (st1 := [.int 6, .int 1, .ref 182]) (M1 := mjTo Z104) (fun _ _ => rfl) ?_
      cases hq105 : f116_takeNumber 1 6 Z104 with
      | none => rw [hq105] at h; cases h
      | some w =>
        obtain ⟨v106, Z107⟩ := w
        rw [hq105, mjBd_some] at h
        refine pG_callV (k2 := 106) (As := [.ref 182, .int 1, .int 6]) (rest := []) rfl rfl rfl rfl rfl (by rfl) (by decide) (by decide) (f116_takeNumber_ok hq105) ?_
        rintro r9 M9 ⟨rfl, rfl⟩
        show pG 116 28 [some (.ref 182), some (.ref p0)] [.int v106] (mjTo Z107) _
        by_cases hc108 : mjCmp .ne v106 0 = true
        · rw [if_pos hc108] at h
          refine pG_ift (t := 33) rfl rfl hc108 ?_
          refine pG_many 2 (pc1 := 35) (L1 := [some (.ref 182), some (.ref p0)]) (st1 := [.int 1, .ref 182]) (M1 := mjTo Z107) (fun _ _ => rfl) ?_
          refine pG_putZ (ci := 6) (f := 2) rfl rfl rfl rfl (by rfl) (by decide) (Or.inr rfl) ?_
          rw [mjLet] at h
          generalize zSi Z107 182 2 1 = Z109 at h ⊢
          refine pG_many 2 (pc1 := 40) (L1 := [some (.ref 182), some (.ref p0)]) (st1 := [.ref 182, .ref p0]) (M1 := mjTo Z109) (fun _ _ => rfl) ?_
          refine pG_getI (ci := 6) (f := 4) rfl rfl (Or.inl rfl) (by rfl) (by decide) ?_
          have hk110 : mjIs p0 211 2 = true := by
            by_cases q9 : mjIs p0 211 2 = true
            · exact q9
            · rw [if_neg q9] at h; cases h
          rw [if_pos hk110] at h
          refine pG_putI (ci := 2) (f := 9) rfl rfl rfl rfl hk110 (by decide) ?_
          rw [mjLet] at h
          generalize zSi Z109 p0 9 (Z109.1 182 4) = Z111 at h ⊢
          refine pG_many 1 (pc1 := 47) (L1 := [some (.ref 182), some (.ref p0)]) (st1 := [.int 1]) (M1 := mjTo Z111) (fun _ _ => rfl) ?_
          simp only [Option.some.injEq, Prod.mk.injEq] at h
          obtain ⟨rfl, rfl⟩ := h
          exact pG_ret (r := some (.int 1)) rfl ⟨rfl, rfl⟩
        · rw [if_neg hc108] at h
          refine pG_iff (t := 33) rfl rfl hc108 ?_
          refine pG_many 1 (pc1 := 32) (L1 := [some (.ref 182), some (.ref p0)]) (st1 := [.int 0]) (M1 := mjTo Z107) (fun _ _ => rfl) ?_
          simp only [Option.some.injEq, Prod.mk.injEq] at h
          obtain ⟨rfl, rfl⟩ := h
          exact pG_ret (r := some (.int 0)) rfl ⟨rfl, rfl⟩
  · rw [if_neg hc101] at h
    refine pG_iff (t := 14) rfl rfl hc101 ?_
    refine pG_many 2 (pc1 := 10) (L1 := [some (.ref 182), some (.ref p0)]) (st1 := [.int 6, .ref 182]) (M1 := mjTo Z) (fun _ _ => rfl) ?_
    cases hq112 : f114_fail 6 Z with
    | none => rw [hq112] at h; cases h
    | some w =>
      obtain ⟨v113, Z114⟩ := w
      rw [hq112, mjBd_some] at h
      refine pG_callV (k2 := 104) (As := [.ref 182, .int 6]) (rest := []) rfl rfl rfl rfl rfl (by rfl) (by decide) (by decide) (f114_fail_ok hq112) ?_
      rintro r9 M9 ⟨rfl, rfl⟩
      show pG 116 13 [some (.ref 182), some (.ref p0)] [.int v113] (mjTo Z114) _
      have hk115 : v113 = 0 ∨ v113 = 1 := by
        by_cases q9 : v113 = 0 ∨ v113 = 1
        · exact q9
        · rw [if_neg q9] at h; cases h
      rw [if_pos hk115] at h
      simp only [Option.some.injEq, Prod.mk.injEq] at h
      obtain ⟨rfl, rfl⟩ := h
      exact pG_ret (r := some (.int v113)) (mjRt1_z rfl rfl hk115) ⟨rfl, rfl⟩
def f127_readWithin (p0 : Nat) (Z : mjZt) : Option (Int32 × mjZt) :=
  if mjCmp .eq (Z.1 182 3) 0 = true then
    mjBd (f68_advance  Z) fun _ Z104 =>
    mjBd (f116_takeNumber 0 99 Z104) fun v106 Z107 =>
    if mjCmp .ne v106 0 = true then
      mjLet (zSi Z107 182 3 1) fun Z109 =>
      if mjIs p0 211 2 = true then
      mjLet (zSi Z109 p0 10 (Z109.1 182 4)) fun Z111 =>
      some (1, Z111)
      else none
    else
      some (0, Z107)
  else
    mjBd (f114_fail 6 Z) fun v113 Z114 =>
    if v113 = 0 ∨ v113 = 1 then
    some (v113, Z114)
    else none
theorem f127_readWithin_ok {p0 : Nat} {Z : mjZt} {v9 : Int32} {Z9 : mjZt} (h : f127_readWithin p0 Z = some (v9, Z9)) : pG 117 0 (mjEnt [.ref 182, .ref p0] (mjML 117)) [] (mjTo Z) (fun r M1 => r = some (.int v9) ∧ M1 = mjTo Z9) := by
  unfold f127_readWithin at h
  show pG 117 0 [some (.ref 182), some (.ref p0)] [] (mjTo Z) _
  refine pG_many 1 (pc1 := 1) (L1 := [some (.ref 182), some (.ref p0)]) (st1 := [.ref 182]) (M1 := mjTo Z) (fun _ _ => rfl) ?_
  refine pG_getI (ci := 6) (f := 3) rfl rfl (Or.inr rfl) (by rfl) (by decide) ?_
  by_cases hc101 : mjCmp .eq (Z.1 182 3) 0 = true
  · rw [if_pos hc101] at h
    refine pG_ift (t := 14) rfl rfl hc101 ?_
    refine pG_many 1 (pc1 := 15) (L1 := [some (.ref 182), some (.ref p0)]) (st1 := [.ref 182]) (M1 := mjTo Z) (fun _ _ => rfl) ?_
    refine pG_getR (ci := 6) (f := 0) (b := 183) rfl rfl rfl (by rfl) (by decide) rfl ?_
    cases hq102 : f68_advance  Z with
    | none => rw [hq102] at h; cases h
    | some w =>
      obtain ⟨v103, Z104⟩ := w
      rw [hq102, mjBd_some] at h
      refine pG_callV (k2 := 68) (As := [.ref 183]) (rest := []) rfl rfl rfl rfl rfl (by rfl) (by decide) (by decide) (f68_advance_ok hq102) ?_
      rintro r9 M9 ⟨rfl, rfl⟩
      show pG 117 21 [some (.ref 182), some (.ref p0)] [] (mjTo Z104) _
      refine pG_many 3 (pc1 := 25) (L1 := [some (.ref 182), some (.ref p0)]) (st1 := [.int 99, .int 0, .ref 182]) (M1 := mjTo Z104) (fun _ _ => rfl) ?_
      cases hq105 : f116_takeNumber 0 99 Z104 with
      | none => rw [hq105] at h; cases h
      | some w =>
        obtain ⟨v106, Z107⟩ := w
        rw [hq105, mjBd_some] at h
        refine pG_callV (k2 := 106) (As := [.ref 182, .int 0, .int 99]) (rest := []) rfl rfl rfl rfl rfl (by rfl) (by decide) (by decide) (f116_takeNumber_ok hq105) ?_
        rintro r9 M9 ⟨rfl, rfl⟩
        show pG 117 28 [some (.ref 182), some (.ref p0)] [.int v106] (mjTo Z107) _
        by_cases hc108 : mjCmp .ne v106 0 = true
        · rw [if_pos hc108] at h
          refine pG_ift (t := 33) rfl rfl hc108 ?_
          refine pG_many 2 (pc1 := 35) (L1 := [some (.ref 182), some (.ref p0)]) (st1 := [.int 1, .ref 182]) (M1 := mjTo Z107) (fun _ _ => rfl) ?_
          refine pG_putZ (ci := 6) (f := 3) rfl rfl rfl rfl (by rfl) (by decide) (Or.inr rfl) ?_
          rw [mjLet] at h
          generalize zSi Z107 182 3 1 = Z109 at h ⊢
          refine pG_many 2 (pc1 := 40) (L1 := [some (.ref 182), some (.ref p0)]) (st1 := [.ref 182, .ref p0]) (M1 := mjTo Z109) (fun _ _ => rfl) ?_
          refine pG_getI (ci := 6) (f := 4) rfl rfl (Or.inl rfl) (by rfl) (by decide) ?_
          have hk110 : mjIs p0 211 2 = true := by
            by_cases q9 : mjIs p0 211 2 = true
            · exact q9
            · rw [if_neg q9] at h; cases h
          rw [if_pos hk110] at h
          refine pG_putI (ci := 2) (f := 10) rfl rfl rfl rfl hk110 (by decide) ?_
          rw [mjLet] at h
          generalize zSi Z109 p0 10 (Z109.1 182 4) = Z111 at h ⊢
          refine pG_many 1 (pc1 := 47) (L1 := [some (.ref 182), some (.ref p0)]) (st1 := [.int 1]) (M1 := mjTo Z111) (fun _ _ => rfl) ?_
          simp only [Option.some.injEq, Prod.mk.injEq] at h
          obtain ⟨rfl, rfl⟩ := h
          exact pG_ret (r := some (.int 1)) rfl ⟨rfl, rfl⟩
        · rw [if_neg hc108] at h
          refine pG_iff (t := 33) rfl rfl hc108 ?_
          refine pG_many 1 (pc1 := 32) (L1 := [some (.ref 182), some (.ref p0)]) (st1 := [.int 0]) (M1 := mjTo Z107) (fun _ _ => rfl) ?_
          simp only [Option.some.injEq, Prod.mk.injEq] at h
          obtain ⟨rfl, rfl⟩ := h
          exact pG_ret (r := some (.int 0)) rfl ⟨rfl, rfl⟩
  · rw [if_neg hc101] at h
    refine pG_iff (t := 14) rfl rfl hc101 ?_
    refine pG_many 2 (pc1 := 10) (L1 := [some (.ref 182), some (.ref p0)]) (st1 := [.int 6, .ref 182]) (M1 := mjTo Z) (fun _ _ => rfl) ?_
    cases hq112 : f114_fail 6 Z with
    | none => rw [hq112] at h; cases h
    | some w =>
      obtain ⟨v113, Z114⟩ := w
      rw [hq112, mjBd_some] at h
      refine pG_callV (k2 := 104) (As := [.ref 182, .int 6]) (rest := []) rfl rfl rfl rfl rfl (by rfl) (by decide) (by decide) (f114_fail_ok hq112) ?_
      rintro r9 M9 ⟨rfl, rfl⟩
      show pG 117 13 [some (.ref 182), some (.ref p0)] [.int v113] (mjTo Z114) _
      have hk115 : v113 = 0 ∨ v113 = 1 := by
        by_cases q9 : v113 = 0 ∨ v113 = 1
        · exact q9
        · rw [if_neg q9] at h; cases h
      rw [if_pos hk115] at h
      simp only [Option.some.injEq, Prod.mk.injEq] at h
      obtain ⟨rfl, rfl⟩ := h
      exact pG_ret (r := some (.int v113)) (mjRt1_z rfl rfl hk115) ⟨rfl, rfl⟩
def f128_read_j179 (R : Nat → Int32 → mjZt → Option (Int32 × mjZt)) (x3 : Nat) (x4 : Int32) (x5 : Int32) (Z : mjZt) : Option (Int32 × mjZt) :=
  if mjCmp .eq x5 0 = true then
    some ((-1), Z)
  else
    mjBd (f117_takeSign 59 Z) fun v127 Z128 =>
    if mjCmp .ne v127 0 = true then
      R x3 (x4 + 1) Z128
    else
      some ((-1), Z128)
theorem f128_read_j179_ok (R : Nat → Int32 → mjZt → Option (Int32 × mjZt)) (hR : ∀ (x3 : Nat) (x4 : Int32) (d1 d2 d5 : Option Value) (Z : mjZt) (v9 : Int32) (Z9 : mjZt), R x3 x4 Z = some (v9, Z9) → pG 118 46 [some (.ref 182), d1, d2, some (.ref x3), some (.int x4), d5] [] (mjTo Z) (fun r M1 => r = some (.int v9) ∧ M1 = mjTo Z9)) (x3 : Nat) (x4 : Int32) (x5 : Int32) (d1 d2 : Option Value) (Z : mjZt) (v9 : Int32) (Z9 : mjZt) (h : f128_read_j179 R x3 x4 x5 Z = some (v9, Z9)) : pG 118 179 [some (.ref 182), d1, d2, some (.ref x3), some (.int x4), some (.int x5)] [] (mjTo Z) (fun r M1 => r = some (.int v9) ∧ M1 = mjTo Z9) := by
  unfold f128_read_j179 at h
  refine pG_many 1 (pc1 := 181) (L1 := [some (.ref 182), d1, d2, some (.ref x3), some (.int x4), some (.int x5)]) (st1 := [.int x5]) (M1 := mjTo Z) (fun _ _ => rfl) ?_
  by_cases hc125 : mjCmp .eq x5 0 = true
  · rw [if_pos hc125] at h
    refine pG_ift (t := 193) rfl rfl hc125 ?_
    refine pG_many 1 (pc1 := 194) (L1 := [some (.ref 182), d1, d2, some (.ref x3), some (.int x4), some (.int x5)]) (st1 := [.int ((-1))]) (M1 := mjTo Z) (fun _ _ => rfl) ?_
    simp only [Option.some.injEq, Prod.mk.injEq] at h
    obtain ⟨rfl, rfl⟩ := h
    exact pG_ret (r := some (.int ((-1)))) rfl ⟨rfl, rfl⟩
  · rw [if_neg hc125] at h
    refine pG_iff (t := 193) rfl rfl hc125 ?_
    refine pG_many 2 (pc1 := 187) (L1 := [some (.ref 182), d1, d2, some (.ref x3), some (.int x4), some (.int x5)]) (st1 := [.int 59, .ref 182]) (M1 := mjTo Z) (fun _ _ => rfl) ?_
    cases hq126 : f117_takeSign 59 Z with
    | none => rw [hq126] at h; cases h
    | some w =>
      obtain ⟨v127, Z128⟩ := w
      rw [hq126, mjBd_some] at h
      refine pG_callV (k2 := 107) (As := [.ref 182, .int 59]) (rest := []) rfl rfl rfl rfl rfl (by rfl) (by decide) (by decide) (f117_takeSign_ok hq126) ?_
      rintro r9 M9 ⟨rfl, rfl⟩
      show pG 118 190 [some (.ref 182), d1, d2, some (.ref x3), some (.int x4), some (.int x5)] [.int v127] (mjTo Z128) _
      by_cases hc129 : mjCmp .ne v127 0 = true
      · rw [if_pos hc129] at h
        refine pG_ift (t := 195) rfl rfl hc129 ?_
        refine pG_many 2 (pc1 := 46) (L1 := [some (.ref 182), d1, d2, some (.ref x3), some (.int (x4 + 1)), some (.int x5)]) (st1 := []) (M1 := mjTo Z128) (fun _ _ => rfl) ?_
        exact hR x3 (x4 + 1) d1 d2 (some (.int x5)) Z128 v9 Z9 h
      · rw [if_neg hc129] at h
        refine pG_iff (t := 195) rfl rfl hc129 ?_
        refine pG_many 1 (pc1 := 194) (L1 := [some (.ref 182), d1, d2, some (.ref x3), some (.int x4), some (.int x5)]) (st1 := [.int ((-1))]) (M1 := mjTo Z128) (fun _ _ => rfl) ?_
        simp only [Option.some.injEq, Prod.mk.injEq] at h
        obtain ⟨rfl, rfl⟩ := h
        exact pG_ret (r := some (.int ((-1)))) rfl ⟨rfl, rfl⟩
def f128_read_h46 : Nat → Nat → Int32 → mjZt → Option (Int32 × mjZt)
  | 0, _, _, _ => none
  | n + 1, x3, x4, Z =>
    if mjCmp .ge x4 700 = true then
      some (x4, Z)
    else
      if mjCmp .eq (Z.1 183 3) 0 = true then
        some (x4, Z)
      else
        mjBp (f51_indexIn 1000002 Z) fun v119 =>
        if (v119).toInt < 1 ∨ 6 < (v119).toInt then
          mjBd (f114_fail 2 Z) fun v123 Z124 =>
          f128_read_j179 (f128_read_h46 n) x3 x4 v123 Z124
        else if ((v119).toInt - 1).toNat = 0 then
          mjBd (f120_readTeam x3 Z) fun v132 Z133 =>
          f128_read_j179 (f128_read_h46 n) x3 x4 v132 Z133
        else if ((v119).toInt - 1).toNat = 1 then
          mjBd (f123_readRuns x3 Z) fun v136 Z137 =>
          f128_read_j179 (f128_read_h46 n) x3 x4 v136 Z137
        else if ((v119).toInt - 1).toNat = 2 then
          mjBd (f124_readAct x3 Z) fun v140 Z141 =>
          f128_read_j179 (f128_read_h46 n) x3 x4 v140 Z141
        else if ((v119).toInt - 1).toNat = 3 then
          mjBd (f125_readRule x3 Z) fun v144 Z145 =>
          f128_read_j179 (f128_read_h46 n) x3 x4 v144 Z145
        else if ((v119).toInt - 1).toNat = 4 then
          mjBd (f126_readThrough x3 Z) fun v148 Z149 =>
          f128_read_j179 (f128_read_h46 n) x3 x4 v148 Z149
        else if ((v119).toInt - 1).toNat = 5 then
          mjBd (f127_readWithin x3 Z) fun v152 Z153 =>
          f128_read_j179 (f128_read_h46 n) x3 x4 v152 Z153
        else none
theorem f128_read_h46_ok : ∀ (n : Nat) (x3 : Nat) (x4 : Int32) (d1 d2 d5 : Option Value) (Z : mjZt) (v9 : Int32) (Z9 : mjZt), f128_read_h46 n x3 x4 Z = some (v9, Z9) → pG 118 46 [some (.ref 182), d1, d2, some (.ref x3), some (.int x4), d5] [] (mjTo Z) (fun r M1 => r = some (.int v9) ∧ M1 = mjTo Z9)
  | 0, x3, x4, d1, d2, d5, Z, v9, Z9, h => by rw [f128_read_h46] at h; cases h
  | n + 1, x3, x4, d1, d2, d5, Z, v9, Z9, h => by
      rw [f128_read_h46] at h
      refine pG_many 2 (pc1 := 51) (L1 := [some (.ref 182), d1, d2, some (.ref x3), some (.int x4), d5]) (st1 := [.int 700, .int x4]) (M1 := mjTo Z) (fun _ _ => rfl) ?_
      by_cases hc116 : mjCmp .ge x4 700 = true
      · rw [if_pos hc116] at h
        refine pG_cmt (t := 201) rfl rfl hc116 ?_
        refine pG_many 1 (pc1 := 203) (L1 := [some (.ref 182), d1, d2, some (.ref x3), some (.int x4), d5]) (st1 := [.int x4]) (M1 := mjTo Z) (fun _ _ => rfl) ?_
        simp only [Option.some.injEq, Prod.mk.injEq] at h
        obtain ⟨rfl, rfl⟩ := h
        exact pG_ret (r := some (.int x4)) rfl ⟨rfl, rfl⟩
      · rw [if_neg hc116] at h
        refine pG_cmf (t := 201) rfl rfl hc116 ?_
        refine pG_many 1 (pc1 := 55) (L1 := [some (.ref 182), d1, d2, some (.ref x3), some (.int x4), d5]) (st1 := [.ref 182]) (M1 := mjTo Z) (fun _ _ => rfl) ?_
        refine pG_getR (ci := 6) (f := 0) (b := 183) rfl rfl rfl (by rfl) (by decide) rfl ?_
        refine pG_getI (ci := 9) (f := 3) rfl rfl (Or.inl rfl) (by rfl) (by decide) ?_
        by_cases hc117 : mjCmp .eq (Z.1 183 3) 0 = true
        · rw [if_pos hc117] at h
          refine pG_ift (t := 201) rfl rfl hc117 ?_
          refine pG_many 1 (pc1 := 203) (L1 := [some (.ref 182), d1, d2, some (.ref x3), some (.int x4), d5]) (st1 := [.int x4]) (M1 := mjTo Z) (fun _ _ => rfl) ?_
          simp only [Option.some.injEq, Prod.mk.injEq] at h
          obtain ⟨rfl, rfl⟩ := h
          exact pG_ret (r := some (.int x4)) rfl ⟨rfl, rfl⟩
        · rw [if_neg hc117] at h
          refine pG_iff (t := 201) rfl rfl hc117 ?_
          refine pG_many 1 (pc1 := 65) (L1 := [some (.ref 182), d1, d2, some (.ref x3), some (.int x4), d5]) (st1 := [.ref 182]) (M1 := mjTo Z) (fun _ _ => rfl) ?_
          refine pG_getR (ci := 6) (f := 0) (b := 183) rfl rfl rfl (by rfl) (by decide) rfl ?_
          refine pG_many 1 (pc1 := 70) (L1 := [some (.ref 182), d1, d2, some (.ref x3), some (.int x4), d5]) (st1 := [.ref 1000002, .ref 183]) (M1 := mjTo Z) (fun _ _ => rfl) ?_
          cases hq118 : f51_indexIn 1000002 Z with
          | none => rw [hq118] at h; cases h
          | some v119 =>
            rw [hq118, mjBp_some] at h
            refine pG_callV (k2 := 51) (As := [.ref 183, .ref 1000002]) (rest := []) rfl rfl rfl rfl rfl (by rfl) (by decide) (by decide) (f51_indexIn_ok hq118) ?_
            rintro r9 M9 ⟨rfl, rfl⟩
            show pG 118 73 [some (.ref 182), d1, d2, some (.ref x3), some (.int x4), d5] [.int v119] (mjTo Z) _
            by_cases hs121 : (v119).toInt < 1 ∨ 6 < (v119).toInt
            · rw [if_pos hs121] at h
              refine pG_tso (t := 172) rfl hs121 rfl ?_
              refine pG_many 2 (pc1 := 174) (L1 := [some (.ref 182), d1, d2, some (.ref x3), some (.int x4), d5]) (st1 := [.int 2, .ref 182]) (M1 := mjTo Z) (fun _ _ => rfl) ?_
              cases hq122 : f114_fail 2 Z with
              | none => rw [hq122] at h; cases h
              | some w =>
                obtain ⟨v123, Z124⟩ := w
                rw [hq122, mjBd_some] at h
                refine pG_callV (k2 := 104) (As := [.ref 182, .int 2]) (rest := []) rfl rfl rfl rfl rfl (by rfl) (by decide) (by decide) (f114_fail_ok hq122) ?_
                rintro r9 M9 ⟨rfl, rfl⟩
                show pG 118 177 [some (.ref 182), d1, d2, some (.ref x3), some (.int x4), d5] [.int v123] (mjTo Z124) _
                refine pG_many 1 (pc1 := 179) (L1 := [some (.ref 182), d1, d2, some (.ref x3), some (.int x4), some (.int v123)]) (st1 := []) (M1 := mjTo Z124) (fun _ _ => rfl) ?_
                exact f128_read_j179_ok (f128_read_h46 n) (fun x3 x4 d1 d2 d5 Z v9 Z9 h => f128_read_h46_ok n x3 x4 d1 d2 d5 Z v9 Z9 h) x3 x4 v123 d1 d2 Z124 v9 Z9 h
            rw [if_neg hs121] at h
            by_cases hs130 : ((v119).toInt - 1).toNat = 0
            · rw [if_pos hs130] at h
              refine pG_tsi (t := 112) (j := 0) (o := 39) rfl hs121 hs130 rfl rfl ?_
              refine pG_many 2 (pc1 := 114) (L1 := [some (.ref 182), d1, d2, some (.ref x3), some (.int x4), d5]) (st1 := [.ref x3, .ref 182]) (M1 := mjTo Z) (fun _ _ => rfl) ?_
              cases hq131 : f120_readTeam x3 Z with
              | none => rw [hq131] at h; cases h
              | some w =>
                obtain ⟨v132, Z133⟩ := w
                rw [hq131, mjBd_some] at h
                refine pG_callV (k2 := 110) (As := [.ref 182, .ref x3]) (rest := []) rfl rfl rfl rfl rfl (by rfl) (by decide) (by decide) (f120_readTeam_ok hq131) ?_
                rintro r9 M9 ⟨rfl, rfl⟩
                show pG 118 117 [some (.ref 182), d1, d2, some (.ref x3), some (.int x4), d5] [.int v132] (mjTo Z133) _
                refine pG_many 2 (pc1 := 179) (L1 := [some (.ref 182), d1, d2, some (.ref x3), some (.int x4), some (.int v132)]) (st1 := []) (M1 := mjTo Z133) (fun _ _ => rfl) ?_
                exact f128_read_j179_ok (f128_read_h46 n) (fun x3 x4 d1 d2 d5 Z v9 Z9 h => f128_read_h46_ok n x3 x4 d1 d2 d5 Z v9 Z9 h) x3 x4 v132 d1 d2 Z133 v9 Z9 h
            rw [if_neg hs130] at h
            by_cases hs134 : ((v119).toInt - 1).toNat = 1
            · rw [if_pos hs134] at h
              refine pG_tsi (t := 122) (j := 1) (o := 49) rfl hs121 hs134 rfl rfl ?_
              refine pG_many 2 (pc1 := 124) (L1 := [some (.ref 182), d1, d2, some (.ref x3), some (.int x4), d5]) (st1 := [.ref x3, .ref 182]) (M1 := mjTo Z) (fun _ _ => rfl) ?_
              cases hq135 : f123_readRuns x3 Z with
              | none => rw [hq135] at h; cases h
              | some w =>
                obtain ⟨v136, Z137⟩ := w
                rw [hq135, mjBd_some] at h
                refine pG_callV (k2 := 113) (As := [.ref 182, .ref x3]) (rest := []) rfl rfl rfl rfl rfl (by rfl) (by decide) (by decide) (f123_readRuns_ok hq135) ?_
                rintro r9 M9 ⟨rfl, rfl⟩
                show pG 118 127 [some (.ref 182), d1, d2, some (.ref x3), some (.int x4), d5] [.int v136] (mjTo Z137) _
                refine pG_many 2 (pc1 := 179) (L1 := [some (.ref 182), d1, d2, some (.ref x3), some (.int x4), some (.int v136)]) (st1 := []) (M1 := mjTo Z137) (fun _ _ => rfl) ?_
                exact f128_read_j179_ok (f128_read_h46 n) (fun x3 x4 d1 d2 d5 Z v9 Z9 h => f128_read_h46_ok n x3 x4 d1 d2 d5 Z v9 Z9 h) x3 x4 v136 d1 d2 Z137 v9 Z9 h
            rw [if_neg hs134] at h
            by_cases hs138 : ((v119).toInt - 1).toNat = 2
            · rw [if_pos hs138] at h
              refine pG_tsi (t := 132) (j := 2) (o := 59) rfl hs121 hs138 rfl rfl ?_
              refine pG_many 2 (pc1 := 134) (L1 := [some (.ref 182), d1, d2, some (.ref x3), some (.int x4), d5]) (st1 := [.ref x3, .ref 182]) (M1 := mjTo Z) (fun _ _ => rfl) ?_
              cases hq139 : f124_readAct x3 Z with
              | none => rw [hq139] at h; cases h
              | some w =>
                obtain ⟨v140, Z141⟩ := w
                rw [hq139, mjBd_some] at h
                refine pG_callV (k2 := 114) (As := [.ref 182, .ref x3]) (rest := []) rfl rfl rfl rfl rfl (by rfl) (by decide) (by decide) (f124_readAct_ok hq139) ?_
                rintro r9 M9 ⟨rfl, rfl⟩
                show pG 118 137 [some (.ref 182), d1, d2, some (.ref x3), some (.int x4), d5] [.int v140] (mjTo Z141) _
                refine pG_many 2 (pc1 := 179) (L1 := [some (.ref 182), d1, d2, some (.ref x3), some (.int x4), some (.int v140)]) (st1 := []) (M1 := mjTo Z141) (fun _ _ => rfl) ?_
                exact f128_read_j179_ok (f128_read_h46 n) (fun x3 x4 d1 d2 d5 Z v9 Z9 h => f128_read_h46_ok n x3 x4 d1 d2 d5 Z v9 Z9 h) x3 x4 v140 d1 d2 Z141 v9 Z9 h
            rw [if_neg hs138] at h
            by_cases hs142 : ((v119).toInt - 1).toNat = 3
            · rw [if_pos hs142] at h
              refine pG_tsi (t := 142) (j := 3) (o := 69) rfl hs121 hs142 rfl rfl ?_
              refine pG_many 2 (pc1 := 144) (L1 := [some (.ref 182), d1, d2, some (.ref x3), some (.int x4), d5]) (st1 := [.ref x3, .ref 182]) (M1 := mjTo Z) (fun _ _ => rfl) ?_
              cases hq143 : f125_readRule x3 Z with
              | none => rw [hq143] at h; cases h
              | some w =>
                obtain ⟨v144, Z145⟩ := w
                rw [hq143, mjBd_some] at h
                refine pG_callV (k2 := 115) (As := [.ref 182, .ref x3]) (rest := []) rfl rfl rfl rfl rfl (by rfl) (by decide) (by decide) (f125_readRule_ok hq143) ?_
                rintro r9 M9 ⟨rfl, rfl⟩
                show pG 118 147 [some (.ref 182), d1, d2, some (.ref x3), some (.int x4), d5] [.int v144] (mjTo Z145) _
                refine pG_many 2 (pc1 := 179) (L1 := [some (.ref 182), d1, d2, some (.ref x3), some (.int x4), some (.int v144)]) (st1 := []) (M1 := mjTo Z145) (fun _ _ => rfl) ?_
                exact f128_read_j179_ok (f128_read_h46 n) (fun x3 x4 d1 d2 d5 Z v9 Z9 h => f128_read_h46_ok n x3 x4 d1 d2 d5 Z v9 Z9 h) x3 x4 v144 d1 d2 Z145 v9 Z9 h
            rw [if_neg hs142] at h
            by_cases hs146 : ((v119).toInt - 1).toNat = 4
            · rw [if_pos hs146] at h
              refine pG_tsi (t := 152) (j := 4) (o := 79) rfl hs121 hs146 rfl rfl ?_
              refine pG_many 2 (pc1 := 154) (L1 := [some (.ref 182), d1, d2, some (.ref x3), some (.int x4), d5]) (st1 := [.ref x3, .ref 182]) (M1 := mjTo Z) (fun _ _ => rfl) ?_
              cases hq147 : f126_readThrough x3 Z with
              | none => rw [hq147] at h; cases h
              | some w =>
                obtain ⟨v148, Z149⟩ := w
                rw [hq147, mjBd_some] at h
                refine pG_callV (k2 := 116) (As := [.ref 182, .ref x3]) (rest := []) rfl rfl rfl rfl rfl (by rfl) (by decide) (by decide) (f126_readThrough_ok hq147) ?_
                rintro r9 M9 ⟨rfl, rfl⟩
                show pG 118 157 [some (.ref 182), d1, d2, some (.ref x3), some (.int x4), d5] [.int v148] (mjTo Z149) _
                refine pG_many 2 (pc1 := 179) (L1 := [some (.ref 182), d1, d2, some (.ref x3), some (.int x4), some (.int v148)]) (st1 := []) (M1 := mjTo Z149) (fun _ _ => rfl) ?_
                exact f128_read_j179_ok (f128_read_h46 n) (fun x3 x4 d1 d2 d5 Z v9 Z9 h => f128_read_h46_ok n x3 x4 d1 d2 d5 Z v9 Z9 h) x3 x4 v148 d1 d2 Z149 v9 Z9 h
            rw [if_neg hs146] at h
            by_cases hs150 : ((v119).toInt - 1).toNat = 5
            · rw [if_pos hs150] at h
              refine pG_tsi (t := 162) (j := 5) (o := 89) rfl hs121 hs150 rfl rfl ?_
              refine pG_many 2 (pc1 := 164) (L1 := [some (.ref 182), d1, d2, some (.ref x3), some (.int x4), d5]) (st1 := [.ref x3, .ref 182]) (M1 := mjTo Z) (fun _ _ => rfl) ?_
              cases hq151 : f127_readWithin x3 Z with
              | none => rw [hq151] at h; cases h
              | some w =>
                obtain ⟨v152, Z153⟩ := w
                rw [hq151, mjBd_some] at h
                refine pG_callV (k2 := 117) (As := [.ref 182, .ref x3]) (rest := []) rfl rfl rfl rfl rfl (by rfl) (by decide) (by decide) (f127_readWithin_ok hq151) ?_
                rintro r9 M9 ⟨rfl, rfl⟩
                show pG 118 167 [some (.ref 182), d1, d2, some (.ref x3), some (.int x4), d5] [.int v152] (mjTo Z153) _
                refine pG_many 2 (pc1 := 179) (L1 := [some (.ref 182), d1, d2, some (.ref x3), some (.int x4), some (.int v152)]) (st1 := []) (M1 := mjTo Z153) (fun _ _ => rfl) ?_
                exact f128_read_j179_ok (f128_read_h46 n) (fun x3 x4 d1 d2 d5 Z v9 Z9 h => f128_read_h46_ok n x3 x4 d1 d2 d5 Z v9 Z9 h) x3 x4 v152 d1 d2 Z153 v9 Z9 h
            rw [if_neg hs150] at h
            cases h
def f128_read (p0 : Nat) (p1 : Int32) (p2 : Nat) (Z : mjZt) : Option (Int32 × mjZt) :=
  if mjIs p2 211 2 = true then
  mjBd (f15_clear p2 Z) fun _ Z104 =>
  mjLet (zSi Z104 182 2 0) fun Z105 =>
  mjLet (zSi Z105 182 3 0) fun Z106 =>
  mjLet (zSi Z106 182 5 0) fun Z107 =>
  mjLet (zSi Z107 182 6 ((-1))) fun Z108 =>
  mjBd (f113_open p0 p1 Z108) fun _ Z111 =>
  mjBd (f118_readTrack p2 Z111) fun v113 Z114 =>
  if mjCmp .ne v113 0 = true then
    f128_read_h46 mjF p2 0 Z114
  else
    some ((-1), Z114)
  else none
theorem f128_read_ok {p0 : Nat} {p1 : Int32} {p2 : Nat} {Z : mjZt} {v9 : Int32} {Z9 : mjZt} (h : f128_read p0 p1 p2 Z = some (v9, Z9)) : pG 118 0 (mjEnt [.ref 182, .ref p0, .int p1, .ref p2] (mjML 118)) [] (mjTo Z) (fun r M1 => r = some (.int v9) ∧ M1 = mjTo Z9) := by
  unfold f128_read at h
  show pG 118 0 [some (.ref 182), some (.ref p0), some (.int p1), some (.ref p2), none, none] [] (mjTo Z) _
  refine pG_many 1 (pc1 := 1) (L1 := [some (.ref 182), some (.ref p0), some (.int p1), some (.ref p2), none, none]) (st1 := [.ref p2]) (M1 := mjTo Z) (fun _ _ => rfl) ?_
  have hk101 : mjIs p2 211 2 = true := by
    by_cases q9 : mjIs p2 211 2 = true
    · exact q9
    · rw [if_neg q9] at h; cases h
  rw [if_pos hk101] at h
  cases hq102 : f15_clear p2 Z with
  | none => rw [hq102] at h; cases h
  | some w =>
    obtain ⟨v103, Z104⟩ := w
    rw [hq102, mjBd_some] at h
    refine pG_callV (k2 := 15) (As := [.ref p2]) (rest := []) rfl rfl rfl rfl rfl (mjRcv_is hk101 (by decide)) (by decide) (by decide) (f15_clear_ok hq102) ?_
    rintro r9 M9 ⟨rfl, rfl⟩
    show pG 118 4 [some (.ref 182), some (.ref p0), some (.int p1), some (.ref p2), none, none] [] (mjTo Z104) _
    refine pG_many 2 (pc1 := 6) (L1 := [some (.ref 182), some (.ref p0), some (.int p1), some (.ref p2), none, none]) (st1 := [.int 0, .ref 182]) (M1 := mjTo Z104) (fun _ _ => rfl) ?_
    refine pG_putZ (ci := 6) (f := 2) rfl rfl rfl rfl (by rfl) (by decide) (Or.inl rfl) ?_
    rw [mjLet] at h
    generalize zSi Z104 182 2 0 = Z105 at h ⊢
    refine pG_many 2 (pc1 := 11) (L1 := [some (.ref 182), some (.ref p0), some (.int p1), some (.ref p2), none, none]) (st1 := [.int 0, .ref 182]) (M1 := mjTo Z105) (fun _ _ => rfl) ?_
    refine pG_putZ (ci := 6) (f := 3) rfl rfl rfl rfl (by rfl) (by decide) (Or.inl rfl) ?_
    rw [mjLet] at h
    generalize zSi Z105 182 3 0 = Z106 at h ⊢
    refine pG_many 2 (pc1 := 16) (L1 := [some (.ref 182), some (.ref p0), some (.int p1), some (.ref p2), none, none]) (st1 := [.int 0, .ref 182]) (M1 := mjTo Z106) (fun _ _ => rfl) ?_
    refine pG_putI (ci := 6) (f := 5) rfl rfl rfl rfl (by rfl) (by decide) ?_
    rw [mjLet] at h
    generalize zSi Z106 182 5 0 = Z107 at h ⊢
    refine pG_many 2 (pc1 := 21) (L1 := [some (.ref 182), some (.ref p0), some (.int p1), some (.ref p2), none, none]) (st1 := [.int ((-1)), .ref 182]) (M1 := mjTo Z107) (fun _ _ => rfl) ?_
    refine pG_putI (ci := 6) (f := 6) rfl rfl rfl rfl (by rfl) (by decide) ?_
    rw [mjLet] at h
    generalize zSi Z107 182 6 ((-1)) = Z108 at h ⊢
    refine pG_many 1 (pc1 := 25) (L1 := [some (.ref 182), some (.ref p0), some (.int p1), some (.ref p2), none, none]) (st1 := [.ref 182]) (M1 := mjTo Z108) (fun _ _ => rfl) ?_
    refine pG_getR (ci := 6) (f := 0) (b := 183) rfl rfl rfl (by rfl) (by decide) rfl ?_
    refine pG_many 2 (pc1 := 30) (L1 := [some (.ref 182), some (.ref p0), some (.int p1), some (.ref p2), none, none]) (st1 := [.int p1, .ref p0, .ref 183]) (M1 := mjTo Z108) (fun _ _ => rfl) ?_
    cases hq109 : f113_open p0 p1 Z108 with
    | none => rw [hq109] at h; cases h
    | some w =>
      obtain ⟨v110, Z111⟩ := w
      rw [hq109, mjBd_some] at h
      refine pG_callV (k2 := 103) (As := [.ref 183, .ref p0, .int p1]) (rest := []) rfl rfl rfl rfl rfl (by rfl) (by decide) (by decide) (f113_open_ok hq109) ?_
      rintro r9 M9 ⟨rfl, rfl⟩
      show pG 118 33 [some (.ref 182), some (.ref p0), some (.int p1), some (.ref p2), none, none] [] (mjTo Z111) _
      refine pG_many 2 (pc1 := 35) (L1 := [some (.ref 182), some (.ref p0), some (.int p1), some (.ref p2), none, none]) (st1 := [.ref p2, .ref 182]) (M1 := mjTo Z111) (fun _ _ => rfl) ?_
      cases hq112 : f118_readTrack p2 Z111 with
      | none => rw [hq112] at h; cases h
      | some w =>
        obtain ⟨v113, Z114⟩ := w
        rw [hq112, mjBd_some] at h
        refine pG_callV (k2 := 108) (As := [.ref 182, .ref p2]) (rest := []) rfl rfl rfl rfl rfl (by rfl) (by decide) (by decide) (f118_readTrack_ok hq112) ?_
        rintro r9 M9 ⟨rfl, rfl⟩
        show pG 118 38 [some (.ref 182), some (.ref p0), some (.int p1), some (.ref p2), none, none] [.int v113] (mjTo Z114) _
        by_cases hc115 : mjCmp .ne v113 0 = true
        · rw [if_pos hc115] at h
          refine pG_ift (t := 43) rfl rfl hc115 ?_
          refine pG_many 2 (pc1 := 46) (L1 := [some (.ref 182), some (.ref p0), some (.int p1), some (.ref p2), some (.int 0), none]) (st1 := []) (M1 := mjTo Z114) (fun _ _ => rfl) ?_
          exact f128_read_h46_ok mjF p2 0 (some (.ref p0)) (some (.int p1)) none Z114 v9 Z9 h
        · rw [if_neg hc115] at h
          refine pG_iff (t := 43) rfl rfl hc115 ?_
          refine pG_many 1 (pc1 := 42) (L1 := [some (.ref 182), some (.ref p0), some (.int p1), some (.ref p2), none, none]) (st1 := [.int ((-1))]) (M1 := mjTo Z114) (fun _ _ => rfl) ?_
          simp only [Option.some.injEq, Prod.mk.injEq] at h
          obtain ⟨rfl, rfl⟩ := h
          exact pG_ret (r := some (.int ((-1)))) rfl ⟨rfl, rfl⟩
def f129_comparisonsOf (a0 : Nat) (p0 : Int32) (p1 : Int32) (Z : mjZt) : Option Int32 :=
  if mjIs a0 211 8 = true then
  mjBp (f76_condition p0 p1 Z) fun v103 =>
  mjBp (f5_at (a0 + 6) v103 Z) fun v106 =>
  some v106
  else none
theorem f129_comparisonsOf_ok {a0 : Nat} {p0 : Int32} {p1 : Int32} {Z : mjZt} {v9 : Int32} (h : f129_comparisonsOf a0 p0 p1 Z = some v9) : pG 119 0 (mjEnt [.ref a0, .int p0, .int p1] (mjML 119)) [] (mjTo Z) (fun r M1 => r = some (.int v9) ∧ M1 = mjTo Z) := by
  unfold f129_comparisonsOf at h
  show pG 119 0 [some (.ref a0), some (.int p0), some (.int p1)] [] (mjTo Z) _
  refine pG_many 1 (pc1 := 1) (L1 := [some (.ref a0), some (.int p0), some (.int p1)]) (st1 := [.ref a0]) (M1 := mjTo Z) (fun _ _ => rfl) ?_
  have hk101 : mjIs a0 211 8 = true := by
    by_cases q9 : mjIs a0 211 8 = true
    · exact q9
    · rw [if_neg q9] at h; cases h
  rw [if_pos hk101] at h
  refine pG_getR (ci := 8) (f := 5) (b := a0 + 6) rfl rfl rfl hk101 (by decide) (mjRc8_5 hk101) ?_
  refine pG_many 2 (pc1 := 6) (L1 := [some (.ref a0), some (.int p0), some (.int p1)]) (st1 := [.int p1, .int p0, .ref (a0 + 6)]) (M1 := mjTo Z) (fun _ _ => rfl) ?_
  cases hq102 : f76_condition p0 p1 Z with
  | none => rw [hq102] at h; cases h
  | some v103 =>
    rw [hq102, mjBp_some] at h
    refine pG_call (k2 := 75) (As := [.int p0, .int p1]) (rest := [.ref (a0 + 6)]) (fun _ _ => rfl) (by decide) (by decide) (f76_condition_ok hq102) ?_
    rintro r9 M9 ⟨rfl, rfl⟩
    show pG 119 9 [some (.ref a0), some (.int p0), some (.int p1)] [.int v103, .ref (a0 + 6)] (mjTo Z) _
    cases hq105 : f5_at (a0 + 6) v103 Z with
    | none => rw [hq105] at h; cases h
    | some v106 =>
      rw [hq105, mjBp_some] at h
      refine pG_call (k2 := 5) (As := [.ref (a0 + 6), .int v103]) (rest := []) (fun _ _ => rfl) (by decide) (by decide) (f5_at_ok hq105) ?_
      rintro r9 M9 ⟨rfl, rfl⟩
      show pG 119 12 [some (.ref a0), some (.int p0), some (.int p1)] [.int v106] (mjTo Z) _
      simp only [Option.some.injEq] at h
      subst h
      exact pG_ret (r := some (.int v106)) rfl ⟨rfl, rfl⟩
def f132_strike (a0 : Nat) (p0 : Nat) (Z : mjZt) : Option (Unit × mjZt) :=
  if mjIs a0 211 10 = true then
  if mjIs p0 211 0 = true then
  mjLet (zSi Z a0 4 ((Z.1 a0 4) ||| ((1 : Int32) <<< (((Z.1 p0 1) : Int32) &&& 31)))) fun Z103 =>
  if mjCmp .ne (Z103.1 p0 0) 3 = true then
    some ((), Z103)
  else
    if mjCmp .lt (Z103.1 p0 2) 0 = true then
      some ((), Z103)
    else
      if mjCmp .ge (Z103.1 p0 2) 6 = true then
        some ((), Z103)
      else
        mjLet (zSi Z103 a0 6 ((Z103.1 a0 6) ||| ((1 : Int32) <<< (((Z103.1 p0 2) : Int32) &&& 31)))) fun Z107 =>
        if mjIs (a0 + 2) 211 13 = true then
        if mjIn (Z107.1 p0 2) (mjLay (a0 + 2)).2 = true then
        mjLet (zSi Z107 (a0 + 2) (mjIx (Z107.1 p0 2)) ((Z107.1 (a0 + 2) (mjIx (Z107.1 p0 2))) - (Z107.1 p0 4))) fun Z110 =>
        some ((), Z110)
        else none
        else none
  else none
  else none
theorem f132_strike_ok {a0 : Nat} {p0 : Nat} {Z : mjZt} {v9 : Unit} {Z9 : mjZt} (h : f132_strike a0 p0 Z = some (v9, Z9)) : pG 121 0 (mjEnt [.ref a0, .ref p0] (mjML 121)) [] (mjTo Z) (fun r M1 => r = none ∧ M1 = mjTo Z9) := by
  unfold f132_strike at h
  show pG 121 0 [some (.ref a0), some (.ref p0)] [] (mjTo Z) _
  refine pG_many 2 (pc1 := 2) (L1 := [some (.ref a0), some (.ref p0)]) (st1 := [.ref a0, .ref a0]) (M1 := mjTo Z) (fun _ _ => rfl) ?_
  have hk101 : mjIs a0 211 10 = true := by
    by_cases q9 : mjIs a0 211 10 = true
    · exact q9
    · rw [if_neg q9] at h; cases h
  rw [if_pos hk101] at h
  refine pG_getI (ci := 10) (f := 4) rfl rfl (Or.inl rfl) hk101 (by decide) ?_
  refine pG_many 2 (pc1 := 7) (L1 := [some (.ref a0), some (.ref p0)]) (st1 := [.ref p0, .int 1, .int (Z.1 a0 4), .ref a0]) (M1 := mjTo Z) (fun _ _ => rfl) ?_
  have hk102 : mjIs p0 211 0 = true := by
    by_cases q9 : mjIs p0 211 0 = true
    · exact q9
    · rw [if_neg q9] at h; cases h
  rw [if_pos hk102] at h
  refine pG_getI (ci := 0) (f := 1) rfl rfl (Or.inl rfl) hk102 (by decide) ?_
  refine pG_many 2 (pc1 := 12) (L1 := [some (.ref a0), some (.ref p0)]) (st1 := [.int ((Z.1 a0 4) ||| ((1 : Int32) <<< (((Z.1 p0 1) : Int32) &&& 31))), .ref a0]) (M1 := mjTo Z) (fun _ _ => rfl) ?_
  refine pG_putI (ci := 10) (f := 4) rfl rfl rfl rfl hk101 (by decide) ?_
  rw [mjLet] at h
  generalize zSi Z a0 4 ((Z.1 a0 4) ||| ((1 : Int32) <<< (((Z.1 p0 1) : Int32) &&& 31))) = Z103 at h ⊢
  refine pG_many 1 (pc1 := 16) (L1 := [some (.ref a0), some (.ref p0)]) (st1 := [.ref p0]) (M1 := mjTo Z103) (fun _ _ => rfl) ?_
  refine pG_getI (ci := 0) (f := 0) rfl rfl (Or.inl rfl) hk102 (by decide) ?_
  refine pG_many 1 (pc1 := 20) (L1 := [some (.ref a0), some (.ref p0)]) (st1 := [.int 3, .int (Z103.1 p0 0)]) (M1 := mjTo Z103) (fun _ _ => rfl) ?_
  by_cases hc104 : mjCmp .ne (Z103.1 p0 0) 3 = true
  · rw [if_pos hc104] at h
    refine pG_cmt (t := 70) rfl rfl hc104 ?_
    simp only [Option.some.injEq, Prod.mk.injEq] at h
    obtain ⟨-, rfl⟩ := h
    exact pG_ret (r := none) rfl ⟨rfl, rfl⟩
  · rw [if_neg hc104] at h
    refine pG_cmf (t := 70) rfl rfl hc104 ?_
    refine pG_many 1 (pc1 := 24) (L1 := [some (.ref a0), some (.ref p0)]) (st1 := [.ref p0]) (M1 := mjTo Z103) (fun _ _ => rfl) ?_
    refine pG_getI (ci := 0) (f := 2) rfl rfl (Or.inl rfl) hk102 (by decide) ?_
    by_cases hc105 : mjCmp .lt (Z103.1 p0 2) 0 = true
    · rw [if_pos hc105] at h
      refine pG_ift (t := 70) rfl rfl hc105 ?_
      simp only [Option.some.injEq, Prod.mk.injEq] at h
      obtain ⟨-, rfl⟩ := h
      exact pG_ret (r := none) rfl ⟨rfl, rfl⟩
    · rw [if_neg hc105] at h
      refine pG_iff (t := 70) rfl rfl hc105 ?_
      refine pG_many 1 (pc1 := 31) (L1 := [some (.ref a0), some (.ref p0)]) (st1 := [.ref p0]) (M1 := mjTo Z103) (fun _ _ => rfl) ?_
      refine pG_getI (ci := 0) (f := 2) rfl rfl (Or.inl rfl) hk102 (by decide) ?_
      refine pG_many 1 (pc1 := 36) (L1 := [some (.ref a0), some (.ref p0)]) (st1 := [.int 6, .int (Z103.1 p0 2)]) (M1 := mjTo Z103) (fun _ _ => rfl) ?_
      by_cases hc106 : mjCmp .ge (Z103.1 p0 2) 6 = true
      · rw [if_pos hc106] at h
        refine pG_cmt (t := 70) rfl rfl hc106 ?_
        simp only [Option.some.injEq, Prod.mk.injEq] at h
        obtain ⟨-, rfl⟩ := h
        exact pG_ret (r := none) rfl ⟨rfl, rfl⟩
      · rw [if_neg hc106] at h
        refine pG_cmf (t := 70) rfl rfl hc106 ?_
        refine pG_many 2 (pc1 := 41) (L1 := [some (.ref a0), some (.ref p0)]) (st1 := [.ref a0, .ref a0]) (M1 := mjTo Z103) (fun _ _ => rfl) ?_
        refine pG_getI (ci := 10) (f := 6) rfl rfl (Or.inl rfl) hk101 (by decide) ?_
        refine pG_many 2 (pc1 := 46) (L1 := [some (.ref a0), some (.ref p0)]) (st1 := [.ref p0, .int 1, .int (Z103.1 a0 6), .ref a0]) (M1 := mjTo Z103) (fun _ _ => rfl) ?_
        refine pG_getI (ci := 0) (f := 2) rfl rfl (Or.inl rfl) hk102 (by decide) ?_
        refine pG_many 2 (pc1 := 51) (L1 := [some (.ref a0), some (.ref p0)]) (st1 := [.int ((Z103.1 a0 6) ||| ((1 : Int32) <<< (((Z103.1 p0 2) : Int32) &&& 31))), .ref a0]) (M1 := mjTo Z103) (fun _ _ => rfl) ?_
        refine pG_putI (ci := 10) (f := 6) rfl rfl rfl rfl hk101 (by decide) ?_
        rw [mjLet] at h
        generalize zSi Z103 a0 6 ((Z103.1 a0 6) ||| ((1 : Int32) <<< (((Z103.1 p0 2) : Int32) &&& 31))) = Z107 at h ⊢
        refine pG_many 1 (pc1 := 55) (L1 := [some (.ref a0), some (.ref p0)]) (st1 := [.ref a0]) (M1 := mjTo Z107) (fun _ _ => rfl) ?_
        refine pG_getR (ci := 10) (f := 1) (b := a0 + 2) rfl rfl rfl hk101 (by decide) (mjRc10_1 hk101) ?_
        refine pG_many 1 (pc1 := 59) (L1 := [some (.ref a0), some (.ref p0)]) (st1 := [.ref p0, .ref (a0 + 2)]) (M1 := mjTo Z107) (fun _ _ => rfl) ?_
        refine pG_getI (ci := 0) (f := 2) rfl rfl (Or.inl rfl) hk102 (by decide) ?_
        refine pG_many 1 (pc1 := 63) (L1 := [some (.ref a0), some (.ref p0)]) (st1 := [.int (Z107.1 p0 2), .ref (a0 + 2), .int (Z107.1 p0 2), .ref (a0 + 2)]) (M1 := mjTo Z107) (fun _ _ => rfl) ?_
        have hk108 : mjIs (a0 + 2) 211 13 = true := by
          by_cases q9 : mjIs (a0 + 2) 211 13 = true
          · exact q9
          · rw [if_neg q9] at h; cases h
        rw [if_pos hk108] at h
        have hk109 : mjIn (Z107.1 p0 2) (mjLay (a0 + 2)).2 = true := by
          by_cases q9 : mjIn (Z107.1 p0 2) (mjLay (a0 + 2)).2 = true
          · exact q9
          · rw [if_neg q9] at h; cases h
        rw [if_pos hk109] at h
        refine pG_ial rfl hk108 hk109 ?_
        refine pG_many 1 (pc1 := 65) (L1 := [some (.ref a0), some (.ref p0)]) (st1 := [.ref p0, .int (Z107.1 (a0 + 2) (mjIx (Z107.1 p0 2))), .int (Z107.1 p0 2), .ref (a0 + 2)]) (M1 := mjTo Z107) (fun _ _ => rfl) ?_
        refine pG_getI (ci := 0) (f := 4) rfl rfl (Or.inl rfl) hk102 (by decide) ?_
        refine pG_many 1 (pc1 := 69) (L1 := [some (.ref a0), some (.ref p0)]) (st1 := [.int ((Z107.1 (a0 + 2) (mjIx (Z107.1 p0 2))) - (Z107.1 p0 4)), .int (Z107.1 p0 2), .ref (a0 + 2)]) (M1 := mjTo Z107) (fun _ _ => rfl) ?_
        refine pG_ias rfl hk108 hk109 (?_ : pG 121 70 [some (.ref a0), some (.ref p0)] [] (mjTo (zSi Z107 (a0 + 2) (mjIx (Z107.1 p0 2)) ((Z107.1 (a0 + 2) (mjIx (Z107.1 p0 2))) - (Z107.1 p0 4)))) _)
        rw [mjLet] at h
        generalize zSi Z107 (a0 + 2) (mjIx (Z107.1 p0 2)) ((Z107.1 (a0 + 2) (mjIx (Z107.1 p0 2))) - (Z107.1 p0 4)) = Z110 at h ⊢
        simp only [Option.some.injEq, Prod.mk.injEq] at h
        obtain ⟨-, rfl⟩ := h
        exact pG_ret (r := none) rfl ⟨rfl, rfl⟩
def f133_isIn (a0 : Nat) (p0 : Int32) (Z : mjZt) : Option Int32 :=
  if mjIs a0 211 10 = true then
  mjBp (f5_at (a0 + 3) p0 Z) fun v103 =>
  if mjCmp .eq v103 2147483647 = true then
    some 0
  else
    some 1
  else none
theorem f133_isIn_ok {a0 : Nat} {p0 : Int32} {Z : mjZt} {v9 : Int32} (h : f133_isIn a0 p0 Z = some v9) : pG 122 0 (mjEnt [.ref a0, .int p0] (mjML 122)) [] (mjTo Z) (fun r M1 => r = some (.int v9) ∧ M1 = mjTo Z) := by
  unfold f133_isIn at h
  show pG 122 0 [some (.ref a0), some (.int p0)] [] (mjTo Z) _
  refine pG_many 1 (pc1 := 1) (L1 := [some (.ref a0), some (.int p0)]) (st1 := [.ref a0]) (M1 := mjTo Z) (fun _ _ => rfl) ?_
  have hk101 : mjIs a0 211 10 = true := by
    by_cases q9 : mjIs a0 211 10 = true
    · exact q9
    · rw [if_neg q9] at h; cases h
  rw [if_pos hk101] at h
  refine pG_getR (ci := 10) (f := 2) (b := a0 + 3) rfl rfl rfl hk101 (by decide) (mjRc10_2 hk101) ?_
  refine pG_many 1 (pc1 := 5) (L1 := [some (.ref a0), some (.int p0)]) (st1 := [.int p0, .ref (a0 + 3)]) (M1 := mjTo Z) (fun _ _ => rfl) ?_
  cases hq102 : f5_at (a0 + 3) p0 Z with
  | none => rw [hq102] at h; cases h
  | some v103 =>
    rw [hq102, mjBp_some] at h
    refine pG_call (k2 := 5) (As := [.ref (a0 + 3), .int p0]) (rest := []) (fun _ _ => rfl) (by decide) (by decide) (f5_at_ok hq102) ?_
    rintro r9 M9 ⟨rfl, rfl⟩
    show pG 122 8 [some (.ref a0), some (.int p0)] [.int v103] (mjTo Z) _
    refine pG_many 1 (pc1 := 10) (L1 := [some (.ref a0), some (.int p0)]) (st1 := [.int 2147483647, .int v103]) (M1 := mjTo Z) (fun _ _ => rfl) ?_
    by_cases hc105 : mjCmp .eq v103 2147483647 = true
    · rw [if_pos hc105] at h
      refine pG_cmt (t := 17) rfl rfl hc105 ?_
      refine pG_many 1 (pc1 := 18) (L1 := [some (.ref a0), some (.int p0)]) (st1 := [.int 0]) (M1 := mjTo Z) (fun _ _ => rfl) ?_
      simp only [Option.some.injEq] at h
      subst h
      exact pG_ret (r := some (.int 0)) rfl ⟨rfl, rfl⟩
    · rw [if_neg hc105] at h
      refine pG_cmf (t := 17) rfl rfl hc105 ?_
      refine pG_many 2 (pc1 := 18) (L1 := [some (.ref a0), some (.int p0)]) (st1 := [.int 1]) (M1 := mjTo Z) (fun _ _ => rfl) ?_
      simp only [Option.some.injEq] at h
      subst h
      exact pG_ret (r := some (.int 1)) rfl ⟨rfl, rfl⟩
def f134_rankOf_h4 : Nat → Nat → Int32 → Int32 → Int32 → mjZt → Option Int32
  | 0, _, _, _, _, _ => none
  | n + 1, x0, x1, x2, x3, Z =>
    if mjCmp .ge x3 6 = true then
      some (1 + x2)
    else
      mjBp (f5_at x0 x3 Z) fun v103 =>
      mjBp (f5_at x0 x1 Z) fun v106 =>
      if mjCmp .ge v103 v106 = true then
        f134_rankOf_h4 n x0 x1 x2 (x3 + 1) Z
      else
        f134_rankOf_h4 n x0 x1 (x2 + 1) (x3 + 1) Z
theorem f134_rankOf_h4_ok : ∀ (n : Nat) (x0 : Nat) (x1 : Int32) (x2 : Int32) (x3 : Int32) (Z : mjZt) (v9 : Int32), f134_rankOf_h4 n x0 x1 x2 x3 Z = some v9 → pG 123 4 [some (.ref x0), some (.int x1), some (.int x2), some (.int x3)] [] (mjTo Z) (fun r M1 => r = some (.int v9) ∧ M1 = mjTo Z)
  | 0, x0, x1, x2, x3, Z, v9, h => by rw [f134_rankOf_h4] at h; cases h
  | n + 1, x0, x1, x2, x3, Z, v9, h => by
      rw [f134_rankOf_h4] at h
      refine pG_many 2 (pc1 := 7) (L1 := [some (.ref x0), some (.int x1), some (.int x2), some (.int x3)]) (st1 := [.int 6, .int x3]) (M1 := mjTo Z) (fun _ _ => rfl) ?_
      by_cases hc101 : mjCmp .ge x3 6 = true
      · rw [if_pos hc101] at h
        refine pG_cmt (t := 32) rfl rfl hc101 ?_
        refine pG_many 3 (pc1 := 35) (L1 := [some (.ref x0), some (.int x1), some (.int x2), some (.int x3)]) (st1 := [.int (1 + x2)]) (M1 := mjTo Z) (fun _ _ => rfl) ?_
        simp only [Option.some.injEq] at h
        subst h
        exact pG_ret (r := some (.int (1 + x2))) rfl ⟨rfl, rfl⟩
      · rw [if_neg hc101] at h
        refine pG_cmf (t := 32) rfl rfl hc101 ?_
        refine pG_many 2 (pc1 := 12) (L1 := [some (.ref x0), some (.int x1), some (.int x2), some (.int x3)]) (st1 := [.int x3, .ref x0]) (M1 := mjTo Z) (fun _ _ => rfl) ?_
        cases hq102 : f5_at x0 x3 Z with
        | none => rw [hq102] at h; cases h
        | some v103 =>
          rw [hq102, mjBp_some] at h
          refine pG_call (k2 := 5) (As := [.ref x0, .int x3]) (rest := []) (fun _ _ => rfl) (by decide) (by decide) (f5_at_ok hq102) ?_
          rintro r9 M9 ⟨rfl, rfl⟩
          show pG 123 15 [some (.ref x0), some (.int x1), some (.int x2), some (.int x3)] [.int v103] (mjTo Z) _
          refine pG_many 2 (pc1 := 17) (L1 := [some (.ref x0), some (.int x1), some (.int x2), some (.int x3)]) (st1 := [.int x1, .ref x0, .int v103]) (M1 := mjTo Z) (fun _ _ => rfl) ?_
          cases hq105 : f5_at x0 x1 Z with
          | none => rw [hq105] at h; cases h
          | some v106 =>
            rw [hq105, mjBp_some] at h
            refine pG_call (k2 := 5) (As := [.ref x0, .int x1]) (rest := [.int v103]) (fun _ _ => rfl) (by decide) (by decide) (f5_at_ok hq105) ?_
            rintro r9 M9 ⟨rfl, rfl⟩
            show pG 123 20 [some (.ref x0), some (.int x1), some (.int x2), some (.int x3)] [.int v106, .int v103] (mjTo Z) _
            by_cases hc108 : mjCmp .ge v103 v106 = true
            · rw [if_pos hc108] at h
              refine pG_cmt (t := 26) rfl rfl hc108 ?_
              refine pG_many 2 (pc1 := 4) (L1 := [some (.ref x0), some (.int x1), some (.int x2), some (.int (x3 + 1))]) (st1 := []) (M1 := mjTo Z) (fun _ _ => rfl) ?_
              exact f134_rankOf_h4_ok n x0 x1 x2 (x3 + 1) Z v9 h
            · rw [if_neg hc108] at h
              refine pG_cmf (t := 26) rfl rfl hc108 ?_
              refine pG_many 3 (pc1 := 4) (L1 := [some (.ref x0), some (.int x1), some (.int (x2 + 1)), some (.int (x3 + 1))]) (st1 := []) (M1 := mjTo Z) (fun _ _ => rfl) ?_
              exact f134_rankOf_h4_ok n x0 x1 (x2 + 1) (x3 + 1) Z v9 h
def f134_rankOf (p0 : Nat) (p1 : Int32) (Z : mjZt) : Option Int32 :=
  f134_rankOf_h4 mjF p0 p1 0 0 Z
theorem f134_rankOf_ok {p0 : Nat} {p1 : Int32} {Z : mjZt} {v9 : Int32} (h : f134_rankOf p0 p1 Z = some v9) : pG 123 0 (mjEnt [.ref p0, .int p1] (mjML 123)) [] (mjTo Z) (fun r M1 => r = some (.int v9) ∧ M1 = mjTo Z) := by
  unfold f134_rankOf at h
  show pG 123 0 [some (.ref p0), some (.int p1), none, none] [] (mjTo Z) _
  refine pG_many 4 (pc1 := 4) (L1 := [some (.ref p0), some (.int p1), some (.int 0), some (.int 0)]) (st1 := []) (M1 := mjTo Z) (fun _ _ => rfl) ?_
  exact f134_rankOf_h4_ok mjF p0 p1 0 0 Z v9 h
