def f234_trackLine_j26  (Z : mjZt) : Option (Unit × mjZt) :=
  mjBd (f213_number 2 6 Z) fun v110 Z111 =>
  mjLet (zSi Z111 218 0 v110) fun Z112 =>
  mjBd (f213_number 50 400 Z112) fun v114 Z115 =>
  mjLet (zSi Z115 218 1 v114) fun Z116 =>
  mjBd (f213_number 0 20 Z116) fun v118 Z119 =>
  mjLet (zSi Z119 218 2 v118) fun Z120 =>
  mjBd (f213_number 0 20 Z120) fun v122 Z123 =>
  mjLet (zSi Z123 218 3 v122) fun Z124 =>
  mjBd (f213_number 0 (Z124.1 218 1) Z124) fun v126 Z127 =>
  mjLet (zSi Z127 218 4 v126) fun Z128 =>
  mjBd (f212_must 59 Z128) fun _ Z131 =>
  some ((), Z131)
theorem f234_trackLine_j26_ok  (Z : mjZt) (v9 : Unit) (Z9 : mjZt) (h : f234_trackLine_j26  Z = some (v9, Z9)) : pG 234 26 [some (.ref 211)] [] (mjTo Z) (fun r M1 => r = none ∧ M1 = mjTo Z9) := by
  unfold f234_trackLine_j26 at h
  refine pG_many 1 (pc1 := 27) (L1 := [some (.ref 211)]) (st1 := [.ref 211]) (M1 := mjTo Z) rfl ?_
  refine pG_getR (ci := 12) (f := 28) (b := 218) rfl rfl rfl (by rfl) rfl ?_
  refine pG_many 4 (pc1 := 35) (L1 := [some (.ref 211)]) (st1 := [.int 6, .int 2, .ref 211, .int 0, .ref 218]) (M1 := mjTo Z) rfl ?_
  cases hq109 : f213_number 2 6 Z with
  | none => rw [hq109] at h; cases h
  | some w =>
    obtain ⟨v110, Z111⟩ := w
    rw [hq109, mjBd_some] at h
    refine pG_callV (k2 := 213) (As := [.ref 211, .int 2, .int 6]) (rest := [.int 0, .ref 218]) rfl rfl rfl rfl rfl (by rfl) (by decide) (f213_number_ok hq109) ?_
    rintro r9 M9 ⟨rfl, rfl⟩
    show pG 234 38 [some (.ref 211)] [.int v110, .int 0, .ref 218] (mjTo Z111) _
    refine pG_ias rfl (by rfl) (by decide) (?_ : pG 234 39 [some (.ref 211)] [] (mjTo (zSi Z111 218 0 v110)) _)
    rw [mjLet] at h
    generalize zSi Z111 218 0 v110 = Z112 at h ⊢
    refine pG_many 1 (pc1 := 40) (L1 := [some (.ref 211)]) (st1 := [.ref 211]) (M1 := mjTo Z112) rfl ?_
    refine pG_getR (ci := 12) (f := 28) (b := 218) rfl rfl rfl (by rfl) rfl ?_
    refine pG_many 4 (pc1 := 50) (L1 := [some (.ref 211)]) (st1 := [.int 400, .int 50, .ref 211, .int 1, .ref 218]) (M1 := mjTo Z112) rfl ?_
    cases hq113 : f213_number 50 400 Z112 with
    | none => rw [hq113] at h; cases h
    | some w =>
      obtain ⟨v114, Z115⟩ := w
      rw [hq113, mjBd_some] at h
      refine pG_callV (k2 := 213) (As := [.ref 211, .int 50, .int 400]) (rest := [.int 1, .ref 218]) rfl rfl rfl rfl rfl (by rfl) (by decide) (f213_number_ok hq113) ?_
      rintro r9 M9 ⟨rfl, rfl⟩
      show pG 234 53 [some (.ref 211)] [.int v114, .int 1, .ref 218] (mjTo Z115) _
      refine pG_ias rfl (by rfl) (by decide) (?_ : pG 234 54 [some (.ref 211)] [] (mjTo (zSi Z115 218 1 v114)) _)
      rw [mjLet] at h
      generalize zSi Z115 218 1 v114 = Z116 at h ⊢
      refine pG_many 1 (pc1 := 55) (L1 := [some (.ref 211)]) (st1 := [.ref 211]) (M1 := mjTo Z116) rfl ?_
      refine pG_getR (ci := 12) (f := 28) (b := 218) rfl rfl rfl (by rfl) rfl ?_
      refine pG_many 4 (pc1 := 63) (L1 := [some (.ref 211)]) (st1 := [.int 20, .int 0, .ref 211, .int 2, .ref 218]) (M1 := mjTo Z116) rfl ?_
      cases hq117 : f213_number 0 20 Z116 with
      | none => rw [hq117] at h; cases h
      | some w =>
        obtain ⟨v118, Z119⟩ := w
        rw [hq117, mjBd_some] at h
        refine pG_callV (k2 := 213) (As := [.ref 211, .int 0, .int 20]) (rest := [.int 2, .ref 218]) rfl rfl rfl rfl rfl (by rfl) (by decide) (f213_number_ok hq117) ?_
        rintro r9 M9 ⟨rfl, rfl⟩
        show pG 234 66 [some (.ref 211)] [.int v118, .int 2, .ref 218] (mjTo Z119) _
        refine pG_ias rfl (by rfl) (by decide) (?_ : pG 234 67 [some (.ref 211)] [] (mjTo (zSi Z119 218 2 v118)) _)
        rw [mjLet] at h
        generalize zSi Z119 218 2 v118 = Z120 at h ⊢
        refine pG_many 1 (pc1 := 68) (L1 := [some (.ref 211)]) (st1 := [.ref 211]) (M1 := mjTo Z120) rfl ?_
        refine pG_getR (ci := 12) (f := 28) (b := 218) rfl rfl rfl (by rfl) rfl ?_
        refine pG_many 4 (pc1 := 76) (L1 := [some (.ref 211)]) (st1 := [.int 20, .int 0, .ref 211, .int 3, .ref 218]) (M1 := mjTo Z120) rfl ?_
        cases hq121 : f213_number 0 20 Z120 with
        | none => rw [hq121] at h; cases h
        | some w =>
          obtain ⟨v122, Z123⟩ := w
          rw [hq121, mjBd_some] at h
          refine pG_callV (k2 := 213) (As := [.ref 211, .int 0, .int 20]) (rest := [.int 3, .ref 218]) rfl rfl rfl rfl rfl (by rfl) (by decide) (f213_number_ok hq121) ?_
          rintro r9 M9 ⟨rfl, rfl⟩
          show pG 234 79 [some (.ref 211)] [.int v122, .int 3, .ref 218] (mjTo Z123) _
          refine pG_ias rfl (by rfl) (by decide) (?_ : pG 234 80 [some (.ref 211)] [] (mjTo (zSi Z123 218 3 v122)) _)
          rw [mjLet] at h
          generalize zSi Z123 218 3 v122 = Z124 at h ⊢
          refine pG_many 1 (pc1 := 81) (L1 := [some (.ref 211)]) (st1 := [.ref 211]) (M1 := mjTo Z124) rfl ?_
          refine pG_getR (ci := 12) (f := 28) (b := 218) rfl rfl rfl (by rfl) rfl ?_
          refine pG_many 4 (pc1 := 88) (L1 := [some (.ref 211)]) (st1 := [.ref 211, .int 0, .ref 211, .int 4, .ref 218]) (M1 := mjTo Z124) rfl ?_
          refine pG_getR (ci := 12) (f := 28) (b := 218) rfl rfl rfl (by rfl) rfl ?_
          refine pG_many 1 (pc1 := 92) (L1 := [some (.ref 211)]) (st1 := [.int 1, .ref 218, .int 0, .ref 211, .int 4, .ref 218]) (M1 := mjTo Z124) rfl ?_
          refine pG_ial rfl (by rfl) (by decide) ?_
          cases hq125 : f213_number 0 (Z124.1 218 1) Z124 with
          | none => rw [hq125] at h; cases h
          | some w =>
            obtain ⟨v126, Z127⟩ := w
            rw [hq125, mjBd_some] at h
            refine pG_callV (k2 := 213) (As := [.ref 211, .int 0, .int (Z124.1 218 1)]) (rest := [.int 4, .ref 218]) rfl rfl rfl rfl rfl (by rfl) (by decide) (f213_number_ok hq125) ?_
            rintro r9 M9 ⟨rfl, rfl⟩
            show pG 234 96 [some (.ref 211)] [.int v126, .int 4, .ref 218] (mjTo Z127) _
            refine pG_ias rfl (by rfl) (by decide) (?_ : pG 234 97 [some (.ref 211)] [] (mjTo (zSi Z127 218 4 v126)) _)
            rw [mjLet] at h
            generalize zSi Z127 218 4 v126 = Z128 at h ⊢
            refine pG_many 2 (pc1 := 100) (L1 := [some (.ref 211)]) (st1 := [.int 59, .ref 211]) (M1 := mjTo Z128) rfl ?_
            cases hq129 : f212_must 59 Z128 with
            | none => rw [hq129] at h; cases h
            | some w =>
              obtain ⟨v130, Z131⟩ := w
              rw [hq129, mjBd_some] at h
              refine pG_callV (k2 := 212) (As := [.ref 211, .int 59]) (rest := []) rfl rfl rfl rfl rfl (by rfl) (by decide) (f212_must_ok hq129) ?_
              rintro r9 M9 ⟨rfl, rfl⟩
              show pG 234 103 [some (.ref 211)] [] (mjTo Z131) _
              simp only [Option.some.injEq, Prod.mk.injEq] at h
              obtain ⟨-, rfl⟩ := h
              exact pG_ret (r := none) rfl ⟨rfl, rfl⟩
def f234_trackLine_j15  (Z : mjZt) : Option (Unit × mjZt) :=
  mjBp (f207_isGood  Z) fun v106 =>
  if mjCmp .eq v106 0 = true then
    f234_trackLine_j26  Z
  else
    mjBd (f205_goOn  Z) fun _ Z134 =>
    f234_trackLine_j26  Z134
theorem f234_trackLine_j15_ok  (Z : mjZt) (v9 : Unit) (Z9 : mjZt) (h : f234_trackLine_j15  Z = some (v9, Z9)) : pG 234 15 [some (.ref 211)] [] (mjTo Z) (fun r M1 => r = none ∧ M1 = mjTo Z9) := by
  unfold f234_trackLine_j15 at h
  refine pG_many 1 (pc1 := 16) (L1 := [some (.ref 211)]) (st1 := [.ref 211]) (M1 := mjTo Z) rfl ?_
  cases hq105 : f207_isGood  Z with
  | none => rw [hq105] at h; cases h
  | some v106 =>
    rw [hq105, mjBp_some] at h
    refine pG_callV (k2 := 207) (As := [.ref 211]) (rest := []) rfl rfl rfl rfl rfl (by rfl) (by decide) (f207_isGood_ok hq105) ?_
    rintro r9 M9 ⟨rfl, rfl⟩
    show pG 234 19 [some (.ref 211)] [.int v106] (mjTo Z) _
    by_cases hc108 : mjCmp .eq v106 0 = true
    · rw [if_pos hc108] at h
      refine pG_ift (t := 26) rfl rfl hc108 ?_
      exact f234_trackLine_j26_ok Z v9 Z9 h
    · rw [if_neg hc108] at h
      refine pG_iff (t := 26) rfl rfl hc108 ?_
      refine pG_many 1 (pc1 := 23) (L1 := [some (.ref 211)]) (st1 := [.ref 211]) (M1 := mjTo Z) rfl ?_
      cases hq132 : f205_goOn  Z with
      | none => rw [hq132] at h; cases h
      | some w =>
        obtain ⟨v133, Z134⟩ := w
        rw [hq132, mjBd_some] at h
        refine pG_callV (k2 := 205) (As := [.ref 211]) (rest := []) rfl rfl rfl rfl rfl (by rfl) (by decide) (f205_goOn_ok hq132) ?_
        rintro r9 M9 ⟨rfl, rfl⟩
        show pG 234 26 [some (.ref 211)] [] (mjTo Z134) _
        exact f234_trackLine_j26_ok Z134 v9 Z9 h
def f234_trackLine  (Z : mjZt) : Option (Unit × mjZt) :=
  mjBp (f208_isWord 500135191403 Z) fun v102 =>
  if mjCmp .ne v102 0 = true then
    f234_trackLine_j15  Z
  else
    mjBd (f206_wrong 2 Z) fun _ Z137 =>
    f234_trackLine_j15  Z137
theorem f234_trackLine_ok  {Z : mjZt} {v9 : Unit} {Z9 : mjZt} (h : f234_trackLine  Z = some (v9, Z9)) : pG 234 0 (mjEnt [.ref 211] (mjML 234)) [] (mjTo Z) (fun r M1 => r = none ∧ M1 = mjTo Z9) := by
  unfold f234_trackLine at h
  show pG 234 0 [some (.ref 211)] [] (mjTo Z) _
  refine pG_many 2 (pc1 := 4) (L1 := [some (.ref 211)]) (st1 := [.long 500135191403, .ref 211]) (M1 := mjTo Z) rfl ?_
  cases hq101 : f208_isWord 500135191403 Z with
  | none => rw [hq101] at h; cases h
  | some v102 =>
    rw [hq101, mjBp_some] at h
    refine pG_callV (k2 := 208) (As := [.ref 211, .long 500135191403]) (rest := []) rfl rfl rfl rfl rfl (by rfl) (by decide) (f208_isWord_ok hq101) ?_
    rintro r9 M9 ⟨rfl, rfl⟩
    show pG 234 7 [some (.ref 211)] [.int v102] (mjTo Z) _
    by_cases hc104 : mjCmp .ne v102 0 = true
    · rw [if_pos hc104] at h
      refine pG_ift (t := 15) rfl rfl hc104 ?_
      exact f234_trackLine_j15_ok Z v9 Z9 h
    · rw [if_neg hc104] at h
      refine pG_iff (t := 15) rfl rfl hc104 ?_
      refine pG_many 2 (pc1 := 12) (L1 := [some (.ref 211)]) (st1 := [.int 2, .ref 211]) (M1 := mjTo Z) rfl ?_
      cases hq135 : f206_wrong 2 Z with
      | none => rw [hq135] at h; cases h
      | some w =>
        obtain ⟨v136, Z137⟩ := w
        rw [hq135, mjBd_some] at h
        refine pG_callV (k2 := 206) (As := [.ref 211, .int 2]) (rest := []) rfl rfl rfl rfl rfl (by rfl) (by decide) (f206_wrong_ok hq135) ?_
        rintro r9 M9 ⟨rfl, rfl⟩
        show pG 234 15 [some (.ref 211)] [] (mjTo Z137) _
        exact f234_trackLine_j15_ok Z137 v9 Z9 h
def f235_takes_h264 : Nat → Int32 → mjZt → Option (Unit × mjZt)
  | 0, _, _ => none
  | n + 1, x1, Z =>
    if mjCmp .ge x1 108 = true then
      some ((), Z)
    else
      if mjIn x1 108 = true then
      mjLet (zSi Z 239 (mjIx x1) (Z.1 221 (mjIx x1))) fun Z115 =>
      f235_takes_h264 n (x1 + 1) Z115
      else none
set_option maxRecDepth 4000 in
theorem f235_takes_h264_ok : ∀ (n : Nat) (x1 : Int32) (Z : mjZt) (v9 : Unit) (Z9 : mjZt), f235_takes_h264 n x1 Z = some (v9, Z9) → pG 235 264 [some (.ref 211), some (.int x1)] [] (mjTo Z) (fun r M1 => r = none ∧ M1 = mjTo Z9)
  | 0, x1, Z, v9, Z9, h => by rw [f235_takes_h264] at h; cases h
  | n + 1, x1, Z, v9, Z9, h => by
      rw [f235_takes_h264] at h
      refine pG_many 2 (pc1 := 267) (L1 := [some (.ref 211), some (.int x1)]) (st1 := [.int 108, .int x1]) (M1 := mjTo Z) rfl ?_
      by_cases hc113 : mjCmp .ge x1 108 = true
      · rw [if_pos hc113] at h
        refine pG_cmt (t := 288) rfl rfl hc113 ?_
        simp only [Option.some.injEq, Prod.mk.injEq] at h
        obtain ⟨-, rfl⟩ := h
        exact pG_ret (r := none) rfl ⟨rfl, rfl⟩
      · rw [if_neg hc113] at h
        refine pG_cmf (t := 288) rfl rfl hc113 ?_
        refine pG_many 1 (pc1 := 271) (L1 := [some (.ref 211), some (.int x1)]) (st1 := [.ref 211]) (M1 := mjTo Z) rfl ?_
        refine pG_getR (ci := 12) (f := 54) (b := 239) rfl rfl rfl (by rfl) rfl ?_
        refine pG_many 2 (pc1 := 276) (L1 := [some (.ref 211), some (.int x1)]) (st1 := [.ref 211, .int x1, .ref 239]) (M1 := mjTo Z) rfl ?_
        refine pG_getR (ci := 12) (f := 31) (b := 221) rfl rfl rfl (by rfl) rfl ?_
        refine pG_many 1 (pc1 := 280) (L1 := [some (.ref 211), some (.int x1)]) (st1 := [.int x1, .ref 221, .int x1, .ref 239]) (M1 := mjTo Z) rfl ?_
        have hk114 : mjIn x1 108 = true := by
          by_cases q9 : mjIn x1 108 = true
          · exact q9
          · rw [if_neg q9] at h; cases h
        rw [if_pos hk114] at h
        refine pG_ial rfl (by rfl) hk114 ?_
        refine pG_ias rfl (by rfl) hk114 (?_ : pG 235 282 [some (.ref 211), some (.int x1)] [] (mjTo (zSi Z 239 (mjIx x1) (Z.1 221 (mjIx x1)))) _)
        rw [mjLet] at h
        generalize zSi Z 239 (mjIx x1) (Z.1 221 (mjIx x1)) = Z115 at h ⊢
        refine pG_many 2 (pc1 := 264) (L1 := [some (.ref 211), some (.int (x1 + 1))]) (st1 := []) (M1 := mjTo Z115) rfl ?_
        exact f235_takes_h264_ok n (x1 + 1) Z115 v9 Z9 h
def f235_takes_h236 : Nat → Int32 → mjZt → Option (Unit × mjZt)
  | 0, _, _ => none
  | n + 1, x1, Z =>
    if mjCmp .ge x1 (Z.1 211 17) = true then
      f235_takes_h264 mjF 0 Z
    else
      if mjIn x1 1500 = true then
      mjLet (zSi Z 216 (mjIx x1) (Z.1 215 (mjIx x1))) fun Z117 =>
      f235_takes_h236 n (x1 + 1) Z117
      else none
set_option maxRecDepth 4000 in
theorem f235_takes_h236_ok : ∀ (n : Nat) (x1 : Int32) (Z : mjZt) (v9 : Unit) (Z9 : mjZt), f235_takes_h236 n x1 Z = some (v9, Z9) → pG 235 236 [some (.ref 211), some (.int x1)] [] (mjTo Z) (fun r M1 => r = none ∧ M1 = mjTo Z9)
  | 0, x1, Z, v9, Z9, h => by rw [f235_takes_h236] at h; cases h
  | n + 1, x1, Z, v9, Z9, h => by
      rw [f235_takes_h236] at h
      refine pG_many 2 (pc1 := 238) (L1 := [some (.ref 211), some (.int x1)]) (st1 := [.ref 211, .int x1]) (M1 := mjTo Z) rfl ?_
      refine pG_getI (ci := 12) (f := 17) rfl rfl (Or.inl rfl) (by rfl) ?_
      by_cases hc112 : mjCmp .ge x1 (Z.1 211 17) = true
      · rw [if_pos hc112] at h
        refine pG_cmt (t := 262) rfl rfl hc112 ?_
        refine pG_many 2 (pc1 := 264) (L1 := [some (.ref 211), some (.int 0)]) (st1 := []) (M1 := mjTo Z) rfl ?_
        exact f235_takes_h264_ok mjF 0 Z v9 Z9 h
      · rw [if_neg hc112] at h
        refine pG_cmf (t := 262) rfl rfl hc112 ?_
        refine pG_many 1 (pc1 := 245) (L1 := [some (.ref 211), some (.int x1)]) (st1 := [.ref 211]) (M1 := mjTo Z) rfl ?_
        refine pG_getR (ci := 12) (f := 15) (b := 216) rfl rfl rfl (by rfl) rfl ?_
        refine pG_many 2 (pc1 := 250) (L1 := [some (.ref 211), some (.int x1)]) (st1 := [.ref 211, .int x1, .ref 216]) (M1 := mjTo Z) rfl ?_
        refine pG_getR (ci := 12) (f := 14) (b := 215) rfl rfl rfl (by rfl) rfl ?_
        refine pG_many 1 (pc1 := 254) (L1 := [some (.ref 211), some (.int x1)]) (st1 := [.int x1, .ref 215, .int x1, .ref 216]) (M1 := mjTo Z) rfl ?_
        have hk116 : mjIn x1 1500 = true := by
          by_cases q9 : mjIn x1 1500 = true
          · exact q9
          · rw [if_neg q9] at h; cases h
        rw [if_pos hk116] at h
        refine pG_ial rfl (by rfl) hk116 ?_
        refine pG_ias rfl (by rfl) hk116 (?_ : pG 235 256 [some (.ref 211), some (.int x1)] [] (mjTo (zSi Z 216 (mjIx x1) (Z.1 215 (mjIx x1)))) _)
        rw [mjLet] at h
        generalize zSi Z 216 (mjIx x1) (Z.1 215 (mjIx x1)) = Z117 at h ⊢
        refine pG_many 2 (pc1 := 236) (L1 := [some (.ref 211), some (.int (x1 + 1))]) (st1 := []) (M1 := mjTo Z117) rfl ?_
        exact f235_takes_h236_ok n (x1 + 1) Z117 v9 Z9 h
def f235_takes_h210 : Nat → Int32 → mjZt → Option (Unit × mjZt)
  | 0, _, _ => none
  | n + 1, x1, Z =>
    if mjCmp .ge x1 32 = true then
      f235_takes_h236 mjF 0 Z
    else
      if mjIn x1 32 = true then
      mjLet (zSi Z 236 (mjIx x1) (Z.1 226 (mjIx x1))) fun Z119 =>
      f235_takes_h210 n (x1 + 1) Z119
      else none
set_option maxRecDepth 4000 in
theorem f235_takes_h210_ok : ∀ (n : Nat) (x1 : Int32) (Z : mjZt) (v9 : Unit) (Z9 : mjZt), f235_takes_h210 n x1 Z = some (v9, Z9) → pG 235 210 [some (.ref 211), some (.int x1)] [] (mjTo Z) (fun r M1 => r = none ∧ M1 = mjTo Z9)
  | 0, x1, Z, v9, Z9, h => by rw [f235_takes_h210] at h; cases h
  | n + 1, x1, Z, v9, Z9, h => by
      rw [f235_takes_h210] at h
      refine pG_many 2 (pc1 := 213) (L1 := [some (.ref 211), some (.int x1)]) (st1 := [.int 32, .int x1]) (M1 := mjTo Z) rfl ?_
      by_cases hc111 : mjCmp .ge x1 32 = true
      · rw [if_pos hc111] at h
        refine pG_cmt (t := 234) rfl rfl hc111 ?_
        refine pG_many 2 (pc1 := 236) (L1 := [some (.ref 211), some (.int 0)]) (st1 := []) (M1 := mjTo Z) rfl ?_
        exact f235_takes_h236_ok mjF 0 Z v9 Z9 h
      · rw [if_neg hc111] at h
        refine pG_cmf (t := 234) rfl rfl hc111 ?_
        refine pG_many 1 (pc1 := 217) (L1 := [some (.ref 211), some (.int x1)]) (st1 := [.ref 211]) (M1 := mjTo Z) rfl ?_
        refine pG_getR (ci := 12) (f := 51) (b := 236) rfl rfl rfl (by rfl) rfl ?_
        refine pG_many 2 (pc1 := 222) (L1 := [some (.ref 211), some (.int x1)]) (st1 := [.ref 211, .int x1, .ref 236]) (M1 := mjTo Z) rfl ?_
        refine pG_getR (ci := 12) (f := 36) (b := 226) rfl rfl rfl (by rfl) rfl ?_
        refine pG_many 1 (pc1 := 226) (L1 := [some (.ref 211), some (.int x1)]) (st1 := [.int x1, .ref 226, .int x1, .ref 236]) (M1 := mjTo Z) rfl ?_
        have hk118 : mjIn x1 32 = true := by
          by_cases q9 : mjIn x1 32 = true
          · exact q9
          · rw [if_neg q9] at h; cases h
        rw [if_pos hk118] at h
        refine pG_ial rfl (by rfl) hk118 ?_
        refine pG_ias rfl (by rfl) hk118 (?_ : pG 235 228 [some (.ref 211), some (.int x1)] [] (mjTo (zSi Z 236 (mjIx x1) (Z.1 226 (mjIx x1)))) _)
        rw [mjLet] at h
        generalize zSi Z 236 (mjIx x1) (Z.1 226 (mjIx x1)) = Z119 at h ⊢
        refine pG_many 2 (pc1 := 210) (L1 := [some (.ref 211), some (.int (x1 + 1))]) (st1 := []) (M1 := mjTo Z119) rfl ?_
        exact f235_takes_h210_ok n (x1 + 1) Z119 v9 Z9 h
def f235_takes_h172 : Nat → Int32 → mjZt → Option (Unit × mjZt)
  | 0, _, _ => none
  | n + 1, x1, Z =>
    if mjCmp .ge x1 8 = true then
      f235_takes_h210 mjF 0 Z
    else
      if mjIn x1 8 = true then
      mjLet (zSi Z 235 (mjIx x1) (Z.1 225 (mjIx x1))) fun Z121 =>
      mjLet (zSl Z121 238 (mjIx x1) (Z121.2.1 228 (mjIx x1))) fun Z122 =>
      f235_takes_h172 n (x1 + 1) Z122
      else none
set_option maxRecDepth 4000 in
theorem f235_takes_h172_ok : ∀ (n : Nat) (x1 : Int32) (Z : mjZt) (v9 : Unit) (Z9 : mjZt), f235_takes_h172 n x1 Z = some (v9, Z9) → pG 235 172 [some (.ref 211), some (.int x1)] [] (mjTo Z) (fun r M1 => r = none ∧ M1 = mjTo Z9)
  | 0, x1, Z, v9, Z9, h => by rw [f235_takes_h172] at h; cases h
  | n + 1, x1, Z, v9, Z9, h => by
      rw [f235_takes_h172] at h
      refine pG_many 2 (pc1 := 175) (L1 := [some (.ref 211), some (.int x1)]) (st1 := [.int 8, .int x1]) (M1 := mjTo Z) rfl ?_
      by_cases hc110 : mjCmp .ge x1 8 = true
      · rw [if_pos hc110] at h
        refine pG_cmt (t := 208) rfl rfl hc110 ?_
        refine pG_many 2 (pc1 := 210) (L1 := [some (.ref 211), some (.int 0)]) (st1 := []) (M1 := mjTo Z) rfl ?_
        exact f235_takes_h210_ok mjF 0 Z v9 Z9 h
      · rw [if_neg hc110] at h
        refine pG_cmf (t := 208) rfl rfl hc110 ?_
        refine pG_many 1 (pc1 := 179) (L1 := [some (.ref 211), some (.int x1)]) (st1 := [.ref 211]) (M1 := mjTo Z) rfl ?_
        refine pG_getR (ci := 12) (f := 50) (b := 235) rfl rfl rfl (by rfl) rfl ?_
        refine pG_many 2 (pc1 := 184) (L1 := [some (.ref 211), some (.int x1)]) (st1 := [.ref 211, .int x1, .ref 235]) (M1 := mjTo Z) rfl ?_
        refine pG_getR (ci := 12) (f := 35) (b := 225) rfl rfl rfl (by rfl) rfl ?_
        refine pG_many 1 (pc1 := 188) (L1 := [some (.ref 211), some (.int x1)]) (st1 := [.int x1, .ref 225, .int x1, .ref 235]) (M1 := mjTo Z) rfl ?_
        have hk120 : mjIn x1 8 = true := by
          by_cases q9 : mjIn x1 8 = true
          · exact q9
          · rw [if_neg q9] at h; cases h
        rw [if_pos hk120] at h
        refine pG_ial rfl (by rfl) hk120 ?_
        refine pG_ias rfl (by rfl) hk120 (?_ : pG 235 190 [some (.ref 211), some (.int x1)] [] (mjTo (zSi Z 235 (mjIx x1) (Z.1 225 (mjIx x1)))) _)
        rw [mjLet] at h
        generalize zSi Z 235 (mjIx x1) (Z.1 225 (mjIx x1)) = Z121 at h ⊢
        refine pG_many 1 (pc1 := 191) (L1 := [some (.ref 211), some (.int x1)]) (st1 := [.ref 211]) (M1 := mjTo Z121) rfl ?_
        refine pG_getR (ci := 12) (f := 53) (b := 238) rfl rfl rfl (by rfl) rfl ?_
        refine pG_many 2 (pc1 := 196) (L1 := [some (.ref 211), some (.int x1)]) (st1 := [.ref 211, .int x1, .ref 238]) (M1 := mjTo Z121) rfl ?_
        refine pG_getR (ci := 12) (f := 38) (b := 228) rfl rfl rfl (by rfl) rfl ?_
        refine pG_many 1 (pc1 := 200) (L1 := [some (.ref 211), some (.int x1)]) (st1 := [.int x1, .ref 228, .int x1, .ref 238]) (M1 := mjTo Z121) rfl ?_
        refine pG_lal rfl (by rfl) hk120 ?_
        refine pG_las rfl (by rfl) hk120 (?_ : pG 235 202 [some (.ref 211), some (.int x1)] [] (mjTo (zSl Z121 238 (mjIx x1) (Z121.2.1 228 (mjIx x1)))) _)
        rw [mjLet] at h
        generalize zSl Z121 238 (mjIx x1) (Z121.2.1 228 (mjIx x1)) = Z122 at h ⊢
        refine pG_many 2 (pc1 := 172) (L1 := [some (.ref 211), some (.int (x1 + 1))]) (st1 := []) (M1 := mjTo Z122) rfl ?_
        exact f235_takes_h172_ok n (x1 + 1) Z122 v9 Z9 h
def f235_takes_h122 : Nat → Int32 → mjZt → Option (Unit × mjZt)
  | 0, _, _ => none
  | n + 1, x1, Z =>
    if mjCmp .ge x1 12 = true then
      f235_takes_h172 mjF 0 Z
    else
      if mjIn x1 12 = true then
      mjLet (zSi Z 232 (mjIx x1) (Z.1 222 (mjIx x1))) fun Z124 =>
      mjLet (zSi Z124 233 (mjIx x1) (Z124.1 223 (mjIx x1))) fun Z125 =>
      mjLet (zSi Z125 234 (mjIx x1) (Z125.1 224 (mjIx x1))) fun Z126 =>
      f235_takes_h122 n (x1 + 1) Z126
      else none
set_option maxRecDepth 4000 in
theorem f235_takes_h122_ok : ∀ (n : Nat) (x1 : Int32) (Z : mjZt) (v9 : Unit) (Z9 : mjZt), f235_takes_h122 n x1 Z = some (v9, Z9) → pG 235 122 [some (.ref 211), some (.int x1)] [] (mjTo Z) (fun r M1 => r = none ∧ M1 = mjTo Z9)
  | 0, x1, Z, v9, Z9, h => by rw [f235_takes_h122] at h; cases h
  | n + 1, x1, Z, v9, Z9, h => by
      rw [f235_takes_h122] at h
      refine pG_many 2 (pc1 := 125) (L1 := [some (.ref 211), some (.int x1)]) (st1 := [.int 12, .int x1]) (M1 := mjTo Z) rfl ?_
      by_cases hc109 : mjCmp .ge x1 12 = true
      · rw [if_pos hc109] at h
        refine pG_cmt (t := 170) rfl rfl hc109 ?_
        refine pG_many 2 (pc1 := 172) (L1 := [some (.ref 211), some (.int 0)]) (st1 := []) (M1 := mjTo Z) rfl ?_
        exact f235_takes_h172_ok mjF 0 Z v9 Z9 h
      · rw [if_neg hc109] at h
        refine pG_cmf (t := 170) rfl rfl hc109 ?_
        refine pG_many 1 (pc1 := 129) (L1 := [some (.ref 211), some (.int x1)]) (st1 := [.ref 211]) (M1 := mjTo Z) rfl ?_
        refine pG_getR (ci := 12) (f := 47) (b := 232) rfl rfl rfl (by rfl) rfl ?_
        refine pG_many 2 (pc1 := 134) (L1 := [some (.ref 211), some (.int x1)]) (st1 := [.ref 211, .int x1, .ref 232]) (M1 := mjTo Z) rfl ?_
        refine pG_getR (ci := 12) (f := 32) (b := 222) rfl rfl rfl (by rfl) rfl ?_
        refine pG_many 1 (pc1 := 138) (L1 := [some (.ref 211), some (.int x1)]) (st1 := [.int x1, .ref 222, .int x1, .ref 232]) (M1 := mjTo Z) rfl ?_
        have hk123 : mjIn x1 12 = true := by
          by_cases q9 : mjIn x1 12 = true
          · exact q9
          · rw [if_neg q9] at h; cases h
        rw [if_pos hk123] at h
        refine pG_ial rfl (by rfl) hk123 ?_
        refine pG_ias rfl (by rfl) hk123 (?_ : pG 235 140 [some (.ref 211), some (.int x1)] [] (mjTo (zSi Z 232 (mjIx x1) (Z.1 222 (mjIx x1)))) _)
        rw [mjLet] at h
        generalize zSi Z 232 (mjIx x1) (Z.1 222 (mjIx x1)) = Z124 at h ⊢
        refine pG_many 1 (pc1 := 141) (L1 := [some (.ref 211), some (.int x1)]) (st1 := [.ref 211]) (M1 := mjTo Z124) rfl ?_
        refine pG_getR (ci := 12) (f := 48) (b := 233) rfl rfl rfl (by rfl) rfl ?_
        refine pG_many 2 (pc1 := 146) (L1 := [some (.ref 211), some (.int x1)]) (st1 := [.ref 211, .int x1, .ref 233]) (M1 := mjTo Z124) rfl ?_
        refine pG_getR (ci := 12) (f := 33) (b := 223) rfl rfl rfl (by rfl) rfl ?_
        refine pG_many 1 (pc1 := 150) (L1 := [some (.ref 211), some (.int x1)]) (st1 := [.int x1, .ref 223, .int x1, .ref 233]) (M1 := mjTo Z124) rfl ?_
        refine pG_ial rfl (by rfl) hk123 ?_
        refine pG_ias rfl (by rfl) hk123 (?_ : pG 235 152 [some (.ref 211), some (.int x1)] [] (mjTo (zSi Z124 233 (mjIx x1) (Z124.1 223 (mjIx x1)))) _)
        rw [mjLet] at h
        generalize zSi Z124 233 (mjIx x1) (Z124.1 223 (mjIx x1)) = Z125 at h ⊢
        refine pG_many 1 (pc1 := 153) (L1 := [some (.ref 211), some (.int x1)]) (st1 := [.ref 211]) (M1 := mjTo Z125) rfl ?_
        refine pG_getR (ci := 12) (f := 49) (b := 234) rfl rfl rfl (by rfl) rfl ?_
        refine pG_many 2 (pc1 := 158) (L1 := [some (.ref 211), some (.int x1)]) (st1 := [.ref 211, .int x1, .ref 234]) (M1 := mjTo Z125) rfl ?_
        refine pG_getR (ci := 12) (f := 34) (b := 224) rfl rfl rfl (by rfl) rfl ?_
        refine pG_many 1 (pc1 := 162) (L1 := [some (.ref 211), some (.int x1)]) (st1 := [.int x1, .ref 224, .int x1, .ref 234]) (M1 := mjTo Z125) rfl ?_
        refine pG_ial rfl (by rfl) hk123 ?_
        refine pG_ias rfl (by rfl) hk123 (?_ : pG 235 164 [some (.ref 211), some (.int x1)] [] (mjTo (zSi Z125 234 (mjIx x1) (Z125.1 224 (mjIx x1)))) _)
        rw [mjLet] at h
        generalize zSi Z125 234 (mjIx x1) (Z125.1 224 (mjIx x1)) = Z126 at h ⊢
        refine pG_many 2 (pc1 := 122) (L1 := [some (.ref 211), some (.int (x1 + 1))]) (st1 := []) (M1 := mjTo Z126) rfl ?_
        exact f235_takes_h122_ok n (x1 + 1) Z126 v9 Z9 h
def f235_takes_h72 : Nat → Int32 → mjZt → Option (Unit × mjZt)
  | 0, _, _ => none
  | n + 1, x1, Z =>
    if mjCmp .ge x1 6 = true then
      f235_takes_h122 mjF 0 Z
    else
      if mjIn x1 6 = true then
      mjLet (zSi Z 230 (mjIx x1) (Z.1 219 (mjIx x1))) fun Z128 =>
      mjLet (zSi Z128 231 (mjIx x1) (Z128.1 220 (mjIx x1))) fun Z129 =>
      mjLet (zSl Z129 237 (mjIx x1) (Z129.2.1 227 (mjIx x1))) fun Z130 =>
      f235_takes_h72 n (x1 + 1) Z130
      else none
set_option maxRecDepth 4000 in
theorem f235_takes_h72_ok : ∀ (n : Nat) (x1 : Int32) (Z : mjZt) (v9 : Unit) (Z9 : mjZt), f235_takes_h72 n x1 Z = some (v9, Z9) → pG 235 72 [some (.ref 211), some (.int x1)] [] (mjTo Z) (fun r M1 => r = none ∧ M1 = mjTo Z9)
  | 0, x1, Z, v9, Z9, h => by rw [f235_takes_h72] at h; cases h
  | n + 1, x1, Z, v9, Z9, h => by
      rw [f235_takes_h72] at h
      refine pG_many 2 (pc1 := 75) (L1 := [some (.ref 211), some (.int x1)]) (st1 := [.int 6, .int x1]) (M1 := mjTo Z) rfl ?_
      by_cases hc108 : mjCmp .ge x1 6 = true
      · rw [if_pos hc108] at h
        refine pG_cmt (t := 120) rfl rfl hc108 ?_
        refine pG_many 2 (pc1 := 122) (L1 := [some (.ref 211), some (.int 0)]) (st1 := []) (M1 := mjTo Z) rfl ?_
        exact f235_takes_h122_ok mjF 0 Z v9 Z9 h
      · rw [if_neg hc108] at h
        refine pG_cmf (t := 120) rfl rfl hc108 ?_
        refine pG_many 1 (pc1 := 79) (L1 := [some (.ref 211), some (.int x1)]) (st1 := [.ref 211]) (M1 := mjTo Z) rfl ?_
        refine pG_getR (ci := 12) (f := 45) (b := 230) rfl rfl rfl (by rfl) rfl ?_
        refine pG_many 2 (pc1 := 84) (L1 := [some (.ref 211), some (.int x1)]) (st1 := [.ref 211, .int x1, .ref 230]) (M1 := mjTo Z) rfl ?_
        refine pG_getR (ci := 12) (f := 29) (b := 219) rfl rfl rfl (by rfl) rfl ?_
        refine pG_many 1 (pc1 := 88) (L1 := [some (.ref 211), some (.int x1)]) (st1 := [.int x1, .ref 219, .int x1, .ref 230]) (M1 := mjTo Z) rfl ?_
        have hk127 : mjIn x1 6 = true := by
          by_cases q9 : mjIn x1 6 = true
          · exact q9
          · rw [if_neg q9] at h; cases h
        rw [if_pos hk127] at h
        refine pG_ial rfl (by rfl) hk127 ?_
        refine pG_ias rfl (by rfl) hk127 (?_ : pG 235 90 [some (.ref 211), some (.int x1)] [] (mjTo (zSi Z 230 (mjIx x1) (Z.1 219 (mjIx x1)))) _)
        rw [mjLet] at h
        generalize zSi Z 230 (mjIx x1) (Z.1 219 (mjIx x1)) = Z128 at h ⊢
        refine pG_many 1 (pc1 := 91) (L1 := [some (.ref 211), some (.int x1)]) (st1 := [.ref 211]) (M1 := mjTo Z128) rfl ?_
        refine pG_getR (ci := 12) (f := 46) (b := 231) rfl rfl rfl (by rfl) rfl ?_
        refine pG_many 2 (pc1 := 96) (L1 := [some (.ref 211), some (.int x1)]) (st1 := [.ref 211, .int x1, .ref 231]) (M1 := mjTo Z128) rfl ?_
        refine pG_getR (ci := 12) (f := 30) (b := 220) rfl rfl rfl (by rfl) rfl ?_
        refine pG_many 1 (pc1 := 100) (L1 := [some (.ref 211), some (.int x1)]) (st1 := [.int x1, .ref 220, .int x1, .ref 231]) (M1 := mjTo Z128) rfl ?_
        refine pG_ial rfl (by rfl) hk127 ?_
        refine pG_ias rfl (by rfl) hk127 (?_ : pG 235 102 [some (.ref 211), some (.int x1)] [] (mjTo (zSi Z128 231 (mjIx x1) (Z128.1 220 (mjIx x1)))) _)
        rw [mjLet] at h
        generalize zSi Z128 231 (mjIx x1) (Z128.1 220 (mjIx x1)) = Z129 at h ⊢
        refine pG_many 1 (pc1 := 103) (L1 := [some (.ref 211), some (.int x1)]) (st1 := [.ref 211]) (M1 := mjTo Z129) rfl ?_
        refine pG_getR (ci := 12) (f := 52) (b := 237) rfl rfl rfl (by rfl) rfl ?_
        refine pG_many 2 (pc1 := 108) (L1 := [some (.ref 211), some (.int x1)]) (st1 := [.ref 211, .int x1, .ref 237]) (M1 := mjTo Z129) rfl ?_
        refine pG_getR (ci := 12) (f := 37) (b := 227) rfl rfl rfl (by rfl) rfl ?_
        refine pG_many 1 (pc1 := 112) (L1 := [some (.ref 211), some (.int x1)]) (st1 := [.int x1, .ref 227, .int x1, .ref 237]) (M1 := mjTo Z129) rfl ?_
        refine pG_lal rfl (by rfl) hk127 ?_
        refine pG_las rfl (by rfl) hk127 (?_ : pG 235 114 [some (.ref 211), some (.int x1)] [] (mjTo (zSl Z129 237 (mjIx x1) (Z129.2.1 227 (mjIx x1)))) _)
        rw [mjLet] at h
        generalize zSl Z129 237 (mjIx x1) (Z129.2.1 227 (mjIx x1)) = Z130 at h ⊢
        refine pG_many 2 (pc1 := 72) (L1 := [some (.ref 211), some (.int (x1 + 1))]) (st1 := []) (M1 := mjTo Z130) rfl ?_
        exact f235_takes_h72_ok n (x1 + 1) Z130 v9 Z9 h
def f235_takes_h47 : Nat → Int32 → mjZt → Option (Unit × mjZt)
  | 0, _, _ => none
  | n + 1, x1, Z =>
    if mjCmp .ge x1 5 = true then
      f235_takes_h72 mjF 0 Z
    else
      if mjIn x1 5 = true then
      mjLet (zSi Z 229 (mjIx x1) (Z.1 218 (mjIx x1))) fun Z132 =>
      f235_takes_h47 n (x1 + 1) Z132
      else none
set_option maxRecDepth 4000 in
theorem f235_takes_h47_ok : ∀ (n : Nat) (x1 : Int32) (Z : mjZt) (v9 : Unit) (Z9 : mjZt), f235_takes_h47 n x1 Z = some (v9, Z9) → pG 235 47 [some (.ref 211), some (.int x1)] [] (mjTo Z) (fun r M1 => r = none ∧ M1 = mjTo Z9)
  | 0, x1, Z, v9, Z9, h => by rw [f235_takes_h47] at h; cases h
  | n + 1, x1, Z, v9, Z9, h => by
      rw [f235_takes_h47] at h
      refine pG_many 2 (pc1 := 49) (L1 := [some (.ref 211), some (.int x1)]) (st1 := [.int 5, .int x1]) (M1 := mjTo Z) rfl ?_
      by_cases hc107 : mjCmp .ge x1 5 = true
      · rw [if_pos hc107] at h
        refine pG_cmt (t := 70) rfl rfl hc107 ?_
        refine pG_many 2 (pc1 := 72) (L1 := [some (.ref 211), some (.int 0)]) (st1 := []) (M1 := mjTo Z) rfl ?_
        exact f235_takes_h72_ok mjF 0 Z v9 Z9 h
      · rw [if_neg hc107] at h
        refine pG_cmf (t := 70) rfl rfl hc107 ?_
        refine pG_many 1 (pc1 := 53) (L1 := [some (.ref 211), some (.int x1)]) (st1 := [.ref 211]) (M1 := mjTo Z) rfl ?_
        refine pG_getR (ci := 12) (f := 44) (b := 229) rfl rfl rfl (by rfl) rfl ?_
        refine pG_many 2 (pc1 := 58) (L1 := [some (.ref 211), some (.int x1)]) (st1 := [.ref 211, .int x1, .ref 229]) (M1 := mjTo Z) rfl ?_
        refine pG_getR (ci := 12) (f := 28) (b := 218) rfl rfl rfl (by rfl) rfl ?_
        refine pG_many 1 (pc1 := 62) (L1 := [some (.ref 211), some (.int x1)]) (st1 := [.int x1, .ref 218, .int x1, .ref 229]) (M1 := mjTo Z) rfl ?_
        have hk131 : mjIn x1 5 = true := by
          by_cases q9 : mjIn x1 5 = true
          · exact q9
          · rw [if_neg q9] at h; cases h
        rw [if_pos hk131] at h
        refine pG_ial rfl (by rfl) hk131 ?_
        refine pG_ias rfl (by rfl) hk131 (?_ : pG 235 64 [some (.ref 211), some (.int x1)] [] (mjTo (zSi Z 229 (mjIx x1) (Z.1 218 (mjIx x1)))) _)
        rw [mjLet] at h
        generalize zSi Z 229 (mjIx x1) (Z.1 218 (mjIx x1)) = Z132 at h ⊢
        refine pG_many 2 (pc1 := 47) (L1 := [some (.ref 211), some (.int (x1 + 1))]) (st1 := []) (M1 := mjTo Z132) rfl ?_
        exact f235_takes_h47_ok n (x1 + 1) Z132 v9 Z9 h
def f235_takes  (Z : mjZt) : Option (Unit × mjZt) :=
  mjLet (zSi Z 211 39 (Z.1 211 21)) fun Z101 =>
  mjLet (zSi Z101 211 40 (Z101.1 211 22)) fun Z102 =>
  mjLet (zSi Z102 211 41 (Z102.1 211 23)) fun Z103 =>
  mjLet (zSi Z103 211 42 (Z103.1 211 25)) fun Z104 =>
  mjLet (zSi Z104 211 43 (Z104.1 211 26)) fun Z105 =>
  mjLet (zSi Z105 211 56 0) fun Z106 =>
  f235_takes_h47 mjF 0 Z106
set_option maxRecDepth 4000 in
theorem f235_takes_ok  {Z : mjZt} {v9 : Unit} {Z9 : mjZt} (h : f235_takes  Z = some (v9, Z9)) : pG 235 0 (mjEnt [.ref 211] (mjML 235)) [] (mjTo Z) (fun r M1 => r = none ∧ M1 = mjTo Z9) := by
  unfold f235_takes at h
  show pG 235 0 [some (.ref 211), none] [] (mjTo Z) _
  refine pG_many 2 (pc1 := 2) (L1 := [some (.ref 211), none]) (st1 := [.ref 211, .ref 211]) (M1 := mjTo Z) rfl ?_
  refine pG_getI (ci := 12) (f := 21) rfl rfl (Or.inl rfl) (by rfl) ?_
  refine pG_putI (ci := 12) (f := 39) rfl rfl rfl rfl (by rfl) ?_
  rw [mjLet] at h
  generalize zSi Z 211 39 (Z.1 211 21) = Z101 at h ⊢
  refine pG_many 2 (pc1 := 10) (L1 := [some (.ref 211), none]) (st1 := [.ref 211, .ref 211]) (M1 := mjTo Z101) rfl ?_
  refine pG_getI (ci := 12) (f := 22) rfl rfl (Or.inl rfl) (by rfl) ?_
  refine pG_putI (ci := 12) (f := 40) rfl rfl rfl rfl (by rfl) ?_
  rw [mjLet] at h
  generalize zSi Z101 211 40 (Z101.1 211 22) = Z102 at h ⊢
  refine pG_many 2 (pc1 := 18) (L1 := [some (.ref 211), none]) (st1 := [.ref 211, .ref 211]) (M1 := mjTo Z102) rfl ?_
  refine pG_getI (ci := 12) (f := 23) rfl rfl (Or.inl rfl) (by rfl) ?_
  refine pG_putI (ci := 12) (f := 41) rfl rfl rfl rfl (by rfl) ?_
  rw [mjLet] at h
  generalize zSi Z102 211 41 (Z102.1 211 23) = Z103 at h ⊢
  refine pG_many 2 (pc1 := 26) (L1 := [some (.ref 211), none]) (st1 := [.ref 211, .ref 211]) (M1 := mjTo Z103) rfl ?_
  refine pG_getI (ci := 12) (f := 25) rfl rfl (Or.inl rfl) (by rfl) ?_
  refine pG_putI (ci := 12) (f := 42) rfl rfl rfl rfl (by rfl) ?_
  rw [mjLet] at h
  generalize zSi Z103 211 42 (Z103.1 211 25) = Z104 at h ⊢
  refine pG_many 2 (pc1 := 34) (L1 := [some (.ref 211), none]) (st1 := [.ref 211, .ref 211]) (M1 := mjTo Z104) rfl ?_
  refine pG_getI (ci := 12) (f := 26) rfl rfl (Or.inl rfl) (by rfl) ?_
  refine pG_putI (ci := 12) (f := 43) rfl rfl rfl rfl (by rfl) ?_
  rw [mjLet] at h
  generalize zSi Z104 211 43 (Z104.1 211 26) = Z105 at h ⊢
  refine pG_many 2 (pc1 := 42) (L1 := [some (.ref 211), none]) (st1 := [.int 0, .ref 211]) (M1 := mjTo Z105) rfl ?_
  refine pG_putI (ci := 12) (f := 56) rfl rfl rfl rfl (by rfl) ?_
  rw [mjLet] at h
  generalize zSi Z105 211 56 0 = Z106 at h ⊢
  refine pG_many 2 (pc1 := 47) (L1 := [some (.ref 211), some (.int 0)]) (st1 := []) (M1 := mjTo Z106) rfl ?_
  exact f235_takes_h47_ok mjF 0 Z106 v9 Z9 h
def f236_book_j97  (Z : mjZt) : Option (Int32 × mjZt) :=
  mjLet (zSi Z 211 11 (Z.1 211 9)) fun Z124 =>
  mjLet (zSi Z124 211 12 (Z124.1 211 10)) fun Z125 =>
  if mjCmp .le (Z125.1 211 9) 0 = true then
    mjBd (f235_takes  Z125) fun _ Z129 =>
    some (Z129.1 211 27, Z129)
  else
    some ((-1), Z125)
set_option maxRecDepth 4000 in
theorem f236_book_j97_ok  (Z : mjZt) (v9 : Int32) (Z9 : mjZt) (h : f236_book_j97  Z = some (v9, Z9)) : pG 236 97 [some (.ref 211)] [] (mjTo Z) (fun r M1 => r = some (.int v9) ∧ M1 = mjTo Z9) := by
  unfold f236_book_j97 at h
  refine pG_many 2 (pc1 := 99) (L1 := [some (.ref 211)]) (st1 := [.ref 211, .ref 211]) (M1 := mjTo Z) rfl ?_
  refine pG_getI (ci := 12) (f := 9) rfl rfl (Or.inl rfl) (by rfl) ?_
  refine pG_putI (ci := 12) (f := 11) rfl rfl rfl rfl (by rfl) ?_
  rw [mjLet] at h
  generalize zSi Z 211 11 (Z.1 211 9) = Z124 at h ⊢
  refine pG_many 2 (pc1 := 107) (L1 := [some (.ref 211)]) (st1 := [.ref 211, .ref 211]) (M1 := mjTo Z124) rfl ?_
  refine pG_getI (ci := 12) (f := 10) rfl rfl (Or.inl rfl) (by rfl) ?_
  refine pG_putI (ci := 12) (f := 12) rfl rfl rfl rfl (by rfl) ?_
  rw [mjLet] at h
  generalize zSi Z124 211 12 (Z124.1 211 10) = Z125 at h ⊢
  refine pG_many 1 (pc1 := 114) (L1 := [some (.ref 211)]) (st1 := [.ref 211]) (M1 := mjTo Z125) rfl ?_
  refine pG_getI (ci := 12) (f := 9) rfl rfl (Or.inl rfl) (by rfl) ?_
  by_cases hc126 : mjCmp .le (Z125.1 211 9) 0 = true
  · rw [if_pos hc126] at h
    refine pG_ift (t := 122) rfl rfl hc126 ?_
    refine pG_many 1 (pc1 := 123) (L1 := [some (.ref 211)]) (st1 := [.ref 211]) (M1 := mjTo Z125) rfl ?_
    cases hq127 : f235_takes  Z125 with
    | none => rw [hq127] at h; cases h
    | some w =>
      obtain ⟨v128, Z129⟩ := w
      rw [hq127, mjBd_some] at h
      refine pG_callV (k2 := 235) (As := [.ref 211]) (rest := []) rfl rfl rfl rfl rfl (by rfl) (by decide) (f235_takes_ok hq127) ?_
      rintro r9 M9 ⟨rfl, rfl⟩
      show pG 236 126 [some (.ref 211)] [] (mjTo Z129) _
      refine pG_many 1 (pc1 := 127) (L1 := [some (.ref 211)]) (st1 := [.ref 211]) (M1 := mjTo Z129) rfl ?_
      refine pG_getI (ci := 12) (f := 27) rfl rfl (Or.inl rfl) (by rfl) ?_
      simp only [Option.some.injEq, Prod.mk.injEq] at h
      obtain ⟨rfl, rfl⟩ := h
      exact pG_ret (r := some (.int (Z129.1 211 27))) rfl ⟨rfl, rfl⟩
  · rw [if_neg hc126] at h
    refine pG_iff (t := 122) rfl rfl hc126 ?_
    refine pG_many 1 (pc1 := 121) (L1 := [some (.ref 211)]) (st1 := [.int ((-1))]) (M1 := mjTo Z125) rfl ?_
    simp only [Option.some.injEq, Prod.mk.injEq] at h
    obtain ⟨rfl, rfl⟩ := h
    exact pG_ret (r := some (.int ((-1)))) rfl ⟨rfl, rfl⟩
def f236_book_h76 : Nat → mjZt → Option (Int32 × mjZt)
  | 0, _ => none
  | n + 1, Z =>
    mjBp (f207_isGood  Z) fun v121 =>
    if mjCmp .eq v121 0 = true then
      f236_book_j97  Z
    else
      if mjCmp .eq (Z.1 211 7) 0 = true then
        f236_book_j97  Z
      else
        mjBd (f233_line  Z) fun _ Z133 =>
        f236_book_h76 n  Z133
set_option maxRecDepth 4000 in
theorem f236_book_h76_ok : ∀ (n : Nat)  (Z : mjZt) (v9 : Int32) (Z9 : mjZt), f236_book_h76 n  Z = some (v9, Z9) → pG 236 76 [some (.ref 211)] [] (mjTo Z) (fun r M1 => r = some (.int v9) ∧ M1 = mjTo Z9)
  | 0, Z, v9, Z9, h => by rw [f236_book_h76] at h; cases h
  | n + 1, Z, v9, Z9, h => by
      rw [f236_book_h76] at h
      refine pG_many 1 (pc1 := 77) (L1 := [some (.ref 211)]) (st1 := [.ref 211]) (M1 := mjTo Z) rfl ?_
      cases hq120 : f207_isGood  Z with
      | none => rw [hq120] at h; cases h
      | some v121 =>
        rw [hq120, mjBp_some] at h
        refine pG_callV (k2 := 207) (As := [.ref 211]) (rest := []) rfl rfl rfl rfl rfl (by rfl) (by decide) (f207_isGood_ok hq120) ?_
        rintro r9 M9 ⟨rfl, rfl⟩
        show pG 236 80 [some (.ref 211)] [.int v121] (mjTo Z) _
        by_cases hc123 : mjCmp .eq v121 0 = true
        · rw [if_pos hc123] at h
          refine pG_ift (t := 97) rfl rfl hc123 ?_
          exact f236_book_j97_ok Z v9 Z9 h
        · rw [if_neg hc123] at h
          refine pG_iff (t := 97) rfl rfl hc123 ?_
          refine pG_many 1 (pc1 := 84) (L1 := [some (.ref 211)]) (st1 := [.ref 211]) (M1 := mjTo Z) rfl ?_
          refine pG_getI (ci := 12) (f := 7) rfl rfl (Or.inl rfl) (by rfl) ?_
          by_cases hc130 : mjCmp .eq (Z.1 211 7) 0 = true
          · rw [if_pos hc130] at h
            refine pG_ift (t := 97) rfl rfl hc130 ?_
            exact f236_book_j97_ok Z v9 Z9 h
          · rw [if_neg hc130] at h
            refine pG_iff (t := 97) rfl rfl hc130 ?_
            refine pG_many 1 (pc1 := 91) (L1 := [some (.ref 211)]) (st1 := [.ref 211]) (M1 := mjTo Z) rfl ?_
            cases hq131 : f233_line  Z with
            | none => rw [hq131] at h; cases h
            | some w =>
              obtain ⟨v132, Z133⟩ := w
              rw [hq131, mjBd_some] at h
              refine pG_callV (k2 := 233) (As := [.ref 211]) (rest := []) rfl rfl rfl rfl rfl (by rfl) (by decide) (f233_line_ok hq131) ?_
              rintro r9 M9 ⟨rfl, rfl⟩
              show pG 236 94 [some (.ref 211)] [] (mjTo Z133) _
              refine pG_many 1 (pc1 := 76) (L1 := [some (.ref 211)]) (st1 := []) (M1 := mjTo Z133) rfl ?_
              exact f236_book_h76_ok n Z133 v9 Z9 h
def f236_book  (Z : mjZt) : Option (Int32 × mjZt) :=
  mjLet (zSi Z 211 4 (Z.1 211 1)) fun Z101 =>
  mjLet (zSi Z101 211 1 0) fun Z102 =>
  mjLet (zSi Z102 211 5 0) fun Z103 =>
  mjLet (zSi Z103 211 9 0) fun Z104 =>
  mjLet (zSi Z104 211 10 ((-1))) fun Z105 =>
  mjLet (zSi Z105 211 21 0) fun Z106 =>
  mjLet (zSi Z106 211 22 0) fun Z107 =>
  mjLet (zSi Z107 211 23 0) fun Z108 =>
  mjLet (zSi Z108 211 24 0) fun Z109 =>
  mjLet (zSi Z109 211 25 2) fun Z110 =>
  mjLet (zSi Z110 211 26 5) fun Z111 =>
  mjLet (zSi Z111 211 17 0) fun Z112 =>
  mjLet (zSi Z112 211 27 0) fun Z113 =>
  mjBd (f205_goOn  Z113) fun _ Z116 =>
  mjBd (f234_trackLine  Z116) fun _ Z119 =>
  f236_book_h76 mjF  Z119
set_option maxRecDepth 4000 in
theorem f236_book_ok  {Z : mjZt} {v9 : Int32} {Z9 : mjZt} (h : f236_book  Z = some (v9, Z9)) : pG 236 0 (mjEnt [.ref 211] (mjML 236)) [] (mjTo Z) (fun r M1 => r = some (.int v9) ∧ M1 = mjTo Z9) := by
  unfold f236_book at h
  show pG 236 0 [some (.ref 211)] [] (mjTo Z) _
  refine pG_many 2 (pc1 := 2) (L1 := [some (.ref 211)]) (st1 := [.ref 211, .ref 211]) (M1 := mjTo Z) rfl ?_
  refine pG_getI (ci := 12) (f := 1) rfl rfl (Or.inl rfl) (by rfl) ?_
  refine pG_putI (ci := 12) (f := 4) rfl rfl rfl rfl (by rfl) ?_
  rw [mjLet] at h
  generalize zSi Z 211 4 (Z.1 211 1) = Z101 at h ⊢
  refine pG_many 2 (pc1 := 10) (L1 := [some (.ref 211)]) (st1 := [.int 0, .ref 211]) (M1 := mjTo Z101) rfl ?_
  refine pG_putI (ci := 12) (f := 1) rfl rfl rfl rfl (by rfl) ?_
  rw [mjLet] at h
  generalize zSi Z101 211 1 0 = Z102 at h ⊢
  refine pG_many 2 (pc1 := 15) (L1 := [some (.ref 211)]) (st1 := [.int 0, .ref 211]) (M1 := mjTo Z102) rfl ?_
  refine pG_putI (ci := 12) (f := 5) rfl rfl rfl rfl (by rfl) ?_
  rw [mjLet] at h
  generalize zSi Z102 211 5 0 = Z103 at h ⊢
  refine pG_many 2 (pc1 := 20) (L1 := [some (.ref 211)]) (st1 := [.int 0, .ref 211]) (M1 := mjTo Z103) rfl ?_
  refine pG_putI (ci := 12) (f := 9) rfl rfl rfl rfl (by rfl) ?_
  rw [mjLet] at h
  generalize zSi Z103 211 9 0 = Z104 at h ⊢
  refine pG_many 2 (pc1 := 25) (L1 := [some (.ref 211)]) (st1 := [.int ((-1)), .ref 211]) (M1 := mjTo Z104) rfl ?_
  refine pG_putI (ci := 12) (f := 10) rfl rfl rfl rfl (by rfl) ?_
  rw [mjLet] at h
  generalize zSi Z104 211 10 ((-1)) = Z105 at h ⊢
  refine pG_many 2 (pc1 := 30) (L1 := [some (.ref 211)]) (st1 := [.int 0, .ref 211]) (M1 := mjTo Z105) rfl ?_
  refine pG_putI (ci := 12) (f := 21) rfl rfl rfl rfl (by rfl) ?_
  rw [mjLet] at h
  generalize zSi Z105 211 21 0 = Z106 at h ⊢
  refine pG_many 2 (pc1 := 35) (L1 := [some (.ref 211)]) (st1 := [.int 0, .ref 211]) (M1 := mjTo Z106) rfl ?_
  refine pG_putI (ci := 12) (f := 22) rfl rfl rfl rfl (by rfl) ?_
  rw [mjLet] at h
  generalize zSi Z106 211 22 0 = Z107 at h ⊢
  refine pG_many 2 (pc1 := 40) (L1 := [some (.ref 211)]) (st1 := [.int 0, .ref 211]) (M1 := mjTo Z107) rfl ?_
  refine pG_putI (ci := 12) (f := 23) rfl rfl rfl rfl (by rfl) ?_
  rw [mjLet] at h
  generalize zSi Z107 211 23 0 = Z108 at h ⊢
  refine pG_many 2 (pc1 := 45) (L1 := [some (.ref 211)]) (st1 := [.int 0, .ref 211]) (M1 := mjTo Z108) rfl ?_
  refine pG_putI (ci := 12) (f := 24) rfl rfl rfl rfl (by rfl) ?_
  rw [mjLet] at h
  generalize zSi Z108 211 24 0 = Z109 at h ⊢
  refine pG_many 2 (pc1 := 50) (L1 := [some (.ref 211)]) (st1 := [.int 2, .ref 211]) (M1 := mjTo Z109) rfl ?_
  refine pG_putI (ci := 12) (f := 25) rfl rfl rfl rfl (by rfl) ?_
  rw [mjLet] at h
  generalize zSi Z109 211 25 2 = Z110 at h ⊢
  refine pG_many 2 (pc1 := 55) (L1 := [some (.ref 211)]) (st1 := [.int 5, .ref 211]) (M1 := mjTo Z110) rfl ?_
  refine pG_putI (ci := 12) (f := 26) rfl rfl rfl rfl (by rfl) ?_
  rw [mjLet] at h
  generalize zSi Z110 211 26 5 = Z111 at h ⊢
  refine pG_many 2 (pc1 := 60) (L1 := [some (.ref 211)]) (st1 := [.int 0, .ref 211]) (M1 := mjTo Z111) rfl ?_
  refine pG_putI (ci := 12) (f := 17) rfl rfl rfl rfl (by rfl) ?_
  rw [mjLet] at h
  generalize zSi Z111 211 17 0 = Z112 at h ⊢
  refine pG_many 2 (pc1 := 65) (L1 := [some (.ref 211)]) (st1 := [.int 0, .ref 211]) (M1 := mjTo Z112) rfl ?_
  refine pG_putI (ci := 12) (f := 27) rfl rfl rfl rfl (by rfl) ?_
  rw [mjLet] at h
  generalize zSi Z112 211 27 0 = Z113 at h ⊢
  refine pG_many 1 (pc1 := 69) (L1 := [some (.ref 211)]) (st1 := [.ref 211]) (M1 := mjTo Z113) rfl ?_
  cases hq114 : f205_goOn  Z113 with
  | none => rw [hq114] at h; cases h
  | some w =>
    obtain ⟨v115, Z116⟩ := w
    rw [hq114, mjBd_some] at h
    refine pG_callV (k2 := 205) (As := [.ref 211]) (rest := []) rfl rfl rfl rfl rfl (by rfl) (by decide) (f205_goOn_ok hq114) ?_
    rintro r9 M9 ⟨rfl, rfl⟩
    show pG 236 72 [some (.ref 211)] [] (mjTo Z116) _
    refine pG_many 1 (pc1 := 73) (L1 := [some (.ref 211)]) (st1 := [.ref 211]) (M1 := mjTo Z116) rfl ?_
    cases hq117 : f234_trackLine  Z116 with
    | none => rw [hq117] at h; cases h
    | some w =>
      obtain ⟨v118, Z119⟩ := w
      rw [hq117, mjBd_some] at h
      refine pG_callV (k2 := 234) (As := [.ref 211]) (rest := []) rfl rfl rfl rfl rfl (by rfl) (by decide) (f234_trackLine_ok hq117) ?_
      rintro r9 M9 ⟨rfl, rfl⟩
      show pG 236 76 [some (.ref 211)] [] (mjTo Z119) _
      exact f236_book_h76_ok mjF Z119 v9 Z9 h
def f237_fault (p0 : Int32) (Z : mjZt) : Option Int32 :=
  if mjCmp .ne p0 0 = true then
    if mjCmp .ne p0 1 = true then
      some ((-1))
    else
      some (Z.1 211 12)
  else
    some (Z.1 211 11)
set_option maxRecDepth 4000 in
theorem f237_fault_ok {p0 : Int32} {Z : mjZt} {v9 : Int32} (h : f237_fault p0 Z = some v9) : pG 237 0 (mjEnt [.ref 211, .int p0] (mjML 237)) [] (mjTo Z) (fun r M1 => r = some (.int v9) ∧ M1 = mjTo Z) := by
  unfold f237_fault at h
  show pG 237 0 [some (.ref 211), some (.int p0)] [] (mjTo Z) _
  refine pG_many 1 (pc1 := 1) (L1 := [some (.ref 211), some (.int p0)]) (st1 := [.int p0]) (M1 := mjTo Z) rfl ?_
  by_cases hc101 : mjCmp .ne p0 0 = true
  · rw [if_pos hc101] at h
    refine pG_ift (t := 11) rfl rfl hc101 ?_
    refine pG_many 2 (pc1 := 13) (L1 := [some (.ref 211), some (.int p0)]) (st1 := [.int 1, .int p0]) (M1 := mjTo Z) rfl ?_
    by_cases hc102 : mjCmp .ne p0 1 = true
    · rw [if_pos hc102] at h
      refine pG_cmt (t := 23) rfl rfl hc102 ?_
      refine pG_many 1 (pc1 := 24) (L1 := [some (.ref 211), some (.int p0)]) (st1 := [.int ((-1))]) (M1 := mjTo Z) rfl ?_
      simp only [Option.some.injEq] at h
      subst h
      exact pG_ret (r := some (.int ((-1)))) rfl ⟨rfl, rfl⟩
    · rw [if_neg hc102] at h
      refine pG_cmf (t := 23) rfl rfl hc102 ?_
      refine pG_many 1 (pc1 := 17) (L1 := [some (.ref 211), some (.int p0)]) (st1 := [.ref 211]) (M1 := mjTo Z) rfl ?_
      refine pG_getI (ci := 12) (f := 12) rfl rfl (Or.inl rfl) (by rfl) ?_
      refine pG_many 1 (pc1 := 24) (L1 := [some (.ref 211), some (.int p0)]) (st1 := [.int (Z.1 211 12)]) (M1 := mjTo Z) rfl ?_
      simp only [Option.some.injEq] at h
      subst h
      exact pG_ret (r := some (.int (Z.1 211 12))) rfl ⟨rfl, rfl⟩
  · rw [if_neg hc101] at h
    refine pG_iff (t := 11) rfl rfl hc101 ?_
    refine pG_many 1 (pc1 := 5) (L1 := [some (.ref 211), some (.int p0)]) (st1 := [.ref 211]) (M1 := mjTo Z) rfl ?_
    refine pG_getI (ci := 12) (f := 11) rfl rfl (Or.inl rfl) (by rfl) ?_
    refine pG_many 1 (pc1 := 24) (L1 := [some (.ref 211), some (.int p0)]) (st1 := [.int (Z.1 211 11)]) (M1 := mjTo Z) rfl ?_
    simp only [Option.some.injEq] at h
    subst h
    exact pG_ret (r := some (.int (Z.1 211 11))) rfl ⟨rfl, rfl⟩
def f238_keeps_h52 : Nat → Int32 → mjZt → Option (Unit × mjZt)
  | 0, _, _ => none
  | n + 1, x1, Z =>
    if mjCmp .ge x1 108 = true then
      mjLet (zSi Z 211 56 ((Z.1 211 56) + 1)) fun Z103 =>
      some ((), Z103)
    else
      if mjIn x1 108 = true then
      if mjIn ((108 * (Z.1 211 56)) + x1) 1080 = true then
      mjLet (zSi Z 240 (mjIx ((108 * (Z.1 211 56)) + x1)) (Z.1 239 (mjIx x1))) fun Z106 =>
      f238_keeps_h52 n (x1 + 1) Z106
      else none
      else none
set_option maxRecDepth 4000 in
theorem f238_keeps_h52_ok : ∀ (n : Nat) (x1 : Int32) (Z : mjZt) (v9 : Unit) (Z9 : mjZt), f238_keeps_h52 n x1 Z = some (v9, Z9) → pG 238 52 [some (.ref 211), some (.int x1)] [] (mjTo Z) (fun r M1 => r = none ∧ M1 = mjTo Z9)
  | 0, x1, Z, v9, Z9, h => by rw [f238_keeps_h52] at h; cases h
  | n + 1, x1, Z, v9, Z9, h => by
      rw [f238_keeps_h52] at h
      refine pG_many 2 (pc1 := 55) (L1 := [some (.ref 211), some (.int x1)]) (st1 := [.int 108, .int x1]) (M1 := mjTo Z) rfl ?_
      by_cases hc102 : mjCmp .ge x1 108 = true
      · rw [if_pos hc102] at h
        refine pG_cmt (t := 84) rfl rfl hc102 ?_
        refine pG_many 2 (pc1 := 86) (L1 := [some (.ref 211), some (.int x1)]) (st1 := [.ref 211, .ref 211]) (M1 := mjTo Z) rfl ?_
        refine pG_getI (ci := 12) (f := 56) rfl rfl (Or.inl rfl) (by rfl) ?_
        refine pG_many 2 (pc1 := 91) (L1 := [some (.ref 211), some (.int x1)]) (st1 := [.int ((Z.1 211 56) + 1), .ref 211]) (M1 := mjTo Z) rfl ?_
        refine pG_putI (ci := 12) (f := 56) rfl rfl rfl rfl (by rfl) ?_
        rw [mjLet] at h
        generalize zSi Z 211 56 ((Z.1 211 56) + 1) = Z103 at h ⊢
        simp only [Option.some.injEq, Prod.mk.injEq] at h
        obtain ⟨-, rfl⟩ := h
        exact pG_ret (r := none) rfl ⟨rfl, rfl⟩
      · rw [if_neg hc102] at h
        refine pG_cmf (t := 84) rfl rfl hc102 ?_
        refine pG_many 1 (pc1 := 59) (L1 := [some (.ref 211), some (.int x1)]) (st1 := [.ref 211]) (M1 := mjTo Z) rfl ?_
        refine pG_getR (ci := 12) (f := 55) (b := 240) rfl rfl rfl (by rfl) rfl ?_
        refine pG_many 2 (pc1 := 65) (L1 := [some (.ref 211), some (.int x1)]) (st1 := [.ref 211, .int 108, .ref 240]) (M1 := mjTo Z) rfl ?_
        refine pG_getI (ci := 12) (f := 56) rfl rfl (Or.inl rfl) (by rfl) ?_
        refine pG_many 4 (pc1 := 72) (L1 := [some (.ref 211), some (.int x1)]) (st1 := [.ref 211, .int ((108 * (Z.1 211 56)) + x1), .ref 240]) (M1 := mjTo Z) rfl ?_
        refine pG_getR (ci := 12) (f := 54) (b := 239) rfl rfl rfl (by rfl) rfl ?_
        refine pG_many 1 (pc1 := 76) (L1 := [some (.ref 211), some (.int x1)]) (st1 := [.int x1, .ref 239, .int ((108 * (Z.1 211 56)) + x1), .ref 240]) (M1 := mjTo Z) rfl ?_
        have hk104 : mjIn x1 108 = true := by
          by_cases q9 : mjIn x1 108 = true
          · exact q9
          · rw [if_neg q9] at h; cases h
        rw [if_pos hk104] at h
        refine pG_ial rfl (by rfl) hk104 ?_
        have hk105 : mjIn ((108 * (Z.1 211 56)) + x1) 1080 = true := by
          by_cases q9 : mjIn ((108 * (Z.1 211 56)) + x1) 1080 = true
          · exact q9
          · rw [if_neg q9] at h; cases h
        rw [if_pos hk105] at h
        refine pG_ias rfl (by rfl) hk105 (?_ : pG 238 78 [some (.ref 211), some (.int x1)] [] (mjTo (zSi Z 240 (mjIx ((108 * (Z.1 211 56)) + x1)) (Z.1 239 (mjIx x1)))) _)
        rw [mjLet] at h
        generalize zSi Z 240 (mjIx ((108 * (Z.1 211 56)) + x1)) (Z.1 239 (mjIx x1)) = Z106 at h ⊢
        refine pG_many 2 (pc1 := 52) (L1 := [some (.ref 211), some (.int (x1 + 1))]) (st1 := []) (M1 := mjTo Z106) rfl ?_
        exact f238_keeps_h52_ok n (x1 + 1) Z106 v9 Z9 h
def f238_keeps_j50  (Z : mjZt) : Option (Unit × mjZt) :=
  f238_keeps_h52 mjF 0 Z
set_option maxRecDepth 4000 in
theorem f238_keeps_j50_ok  (d1 : Option Value) (Z : mjZt) (v9 : Unit) (Z9 : mjZt) (h : f238_keeps_j50  Z = some (v9, Z9)) : pG 238 50 [some (.ref 211), d1] [] (mjTo Z) (fun r M1 => r = none ∧ M1 = mjTo Z9) := by
  unfold f238_keeps_j50 at h
  refine pG_many 2 (pc1 := 52) (L1 := [some (.ref 211), some (.int 0)]) (st1 := []) (M1 := mjTo Z) rfl ?_
  exact f238_keeps_h52_ok mjF 0 Z v9 Z9 h
def f238_keeps_h12 : Nat → Int32 → mjZt → Option (Unit × mjZt)
  | 0, _, _ => none
  | n + 1, x1, Z =>
    if mjCmp .ge x1 1080 = true then
      mjLet (zSi Z 211 56 ((Z.1 211 56) - 1)) fun Z108 =>
      f238_keeps_j50  Z108
    else
      if mjIn x1 1080 = true then
      if mjIn (x1 - 108) 1080 = true then
      mjLet (zSi Z 240 (mjIx (x1 - 108)) (Z.1 240 (mjIx x1))) fun Z111 =>
      f238_keeps_h12 n (x1 + 1) Z111
      else none
      else none
set_option maxRecDepth 4000 in
theorem f238_keeps_h12_ok : ∀ (n : Nat) (x1 : Int32) (Z : mjZt) (v9 : Unit) (Z9 : mjZt), f238_keeps_h12 n x1 Z = some (v9, Z9) → pG 238 12 [some (.ref 211), some (.int x1)] [] (mjTo Z) (fun r M1 => r = none ∧ M1 = mjTo Z9)
  | 0, x1, Z, v9, Z9, h => by rw [f238_keeps_h12] at h; cases h
  | n + 1, x1, Z, v9, Z9, h => by
      rw [f238_keeps_h12] at h
      refine pG_many 2 (pc1 := 16) (L1 := [some (.ref 211), some (.int x1)]) (st1 := [.int 1080, .int x1]) (M1 := mjTo Z) rfl ?_
      by_cases hc107 : mjCmp .ge x1 1080 = true
      · rw [if_pos hc107] at h
        refine pG_cmt (t := 40) rfl rfl hc107 ?_
        refine pG_many 2 (pc1 := 42) (L1 := [some (.ref 211), some (.int x1)]) (st1 := [.ref 211, .ref 211]) (M1 := mjTo Z) rfl ?_
        refine pG_getI (ci := 12) (f := 56) rfl rfl (Or.inl rfl) (by rfl) ?_
        refine pG_many 2 (pc1 := 47) (L1 := [some (.ref 211), some (.int x1)]) (st1 := [.int ((Z.1 211 56) - 1), .ref 211]) (M1 := mjTo Z) rfl ?_
        refine pG_putI (ci := 12) (f := 56) rfl rfl rfl rfl (by rfl) ?_
        rw [mjLet] at h
        generalize zSi Z 211 56 ((Z.1 211 56) - 1) = Z108 at h ⊢
        exact f238_keeps_j50_ok (some (.int x1)) Z108 v9 Z9 h
      · rw [if_neg hc107] at h
        refine pG_cmf (t := 40) rfl rfl hc107 ?_
        refine pG_many 1 (pc1 := 20) (L1 := [some (.ref 211), some (.int x1)]) (st1 := [.ref 211]) (M1 := mjTo Z) rfl ?_
        refine pG_getR (ci := 12) (f := 55) (b := 240) rfl rfl rfl (by rfl) rfl ?_
        refine pG_many 4 (pc1 := 28) (L1 := [some (.ref 211), some (.int x1)]) (st1 := [.ref 211, .int (x1 - 108), .ref 240]) (M1 := mjTo Z) rfl ?_
        refine pG_getR (ci := 12) (f := 55) (b := 240) rfl rfl rfl (by rfl) rfl ?_
        refine pG_many 1 (pc1 := 32) (L1 := [some (.ref 211), some (.int x1)]) (st1 := [.int x1, .ref 240, .int (x1 - 108), .ref 240]) (M1 := mjTo Z) rfl ?_
        have hk109 : mjIn x1 1080 = true := by
          by_cases q9 : mjIn x1 1080 = true
          · exact q9
          · rw [if_neg q9] at h; cases h
        rw [if_pos hk109] at h
        refine pG_ial rfl (by rfl) hk109 ?_
        have hk110 : mjIn (x1 - 108) 1080 = true := by
          by_cases q9 : mjIn (x1 - 108) 1080 = true
          · exact q9
          · rw [if_neg q9] at h; cases h
        rw [if_pos hk110] at h
        refine pG_ias rfl (by rfl) hk110 (?_ : pG 238 34 [some (.ref 211), some (.int x1)] [] (mjTo (zSi Z 240 (mjIx (x1 - 108)) (Z.1 240 (mjIx x1)))) _)
        rw [mjLet] at h
        generalize zSi Z 240 (mjIx (x1 - 108)) (Z.1 240 (mjIx x1)) = Z111 at h ⊢
        refine pG_many 2 (pc1 := 12) (L1 := [some (.ref 211), some (.int (x1 + 1))]) (st1 := []) (M1 := mjTo Z111) rfl ?_
        exact f238_keeps_h12_ok n (x1 + 1) Z111 v9 Z9 h
def f238_keeps  (Z : mjZt) : Option (Unit × mjZt) :=
  if mjCmp .ne (Z.1 211 56) 10 = true then
    f238_keeps_j50  Z
  else
    f238_keeps_h12 mjF 108 Z
set_option maxRecDepth 4000 in
theorem f238_keeps_ok  {Z : mjZt} {v9 : Unit} {Z9 : mjZt} (h : f238_keeps  Z = some (v9, Z9)) : pG 238 0 (mjEnt [.ref 211] (mjML 238)) [] (mjTo Z) (fun r M1 => r = none ∧ M1 = mjTo Z9) := by
  unfold f238_keeps at h
  show pG 238 0 [some (.ref 211), none] [] (mjTo Z) _
  refine pG_many 1 (pc1 := 1) (L1 := [some (.ref 211), none]) (st1 := [.ref 211]) (M1 := mjTo Z) rfl ?_
  refine pG_getI (ci := 12) (f := 56) rfl rfl (Or.inl rfl) (by rfl) ?_
  refine pG_many 1 (pc1 := 6) (L1 := [some (.ref 211), none]) (st1 := [.int 10, .int (Z.1 211 56)]) (M1 := mjTo Z) rfl ?_
  by_cases hc101 : mjCmp .ne (Z.1 211 56) 10 = true
  · rw [if_pos hc101] at h
    refine pG_cmt (t := 50) rfl rfl hc101 ?_
    exact f238_keeps_j50_ok none Z v9 Z9 h
  · rw [if_neg hc101] at h
    refine pG_cmf (t := 50) rfl rfl hc101 ?_
    refine pG_many 2 (pc1 := 12) (L1 := [some (.ref 211), some (.int 108)]) (st1 := []) (M1 := mjTo Z) rfl ?_
    exact f238_keeps_h12_ok mjF 108 Z v9 Z9 h
def f239_undo_h21 : Nat → Int32 → mjZt → Option (Int32 × mjZt)
  | 0, _, _ => none
  | n + 1, x1, Z =>
    if mjCmp .ge x1 108 = true then
      some (Z.1 211 56, Z)
    else
      if mjIn ((108 * (Z.1 211 56)) + x1) 1080 = true then
      if mjIn x1 108 = true then
      mjLet (zSi Z 239 (mjIx x1) (Z.1 240 (mjIx ((108 * (Z.1 211 56)) + x1)))) fun Z106 =>
      f239_undo_h21 n (x1 + 1) Z106
      else none
      else none
set_option maxRecDepth 4000 in
theorem f239_undo_h21_ok : ∀ (n : Nat) (x1 : Int32) (Z : mjZt) (v9 : Int32) (Z9 : mjZt), f239_undo_h21 n x1 Z = some (v9, Z9) → pG 239 21 [some (.ref 211), some (.int x1)] [] (mjTo Z) (fun r M1 => r = some (.int v9) ∧ M1 = mjTo Z9)
  | 0, x1, Z, v9, Z9, h => by rw [f239_undo_h21] at h; cases h
  | n + 1, x1, Z, v9, Z9, h => by
      rw [f239_undo_h21] at h
      refine pG_many 2 (pc1 := 24) (L1 := [some (.ref 211), some (.int x1)]) (st1 := [.int 108, .int x1]) (M1 := mjTo Z) rfl ?_
      by_cases hc103 : mjCmp .ge x1 108 = true
      · rw [if_pos hc103] at h
        refine pG_cmt (t := 53) rfl rfl hc103 ?_
        refine pG_many 1 (pc1 := 54) (L1 := [some (.ref 211), some (.int x1)]) (st1 := [.ref 211]) (M1 := mjTo Z) rfl ?_
        refine pG_getI (ci := 12) (f := 56) rfl rfl (Or.inl rfl) (by rfl) ?_
        simp only [Option.some.injEq, Prod.mk.injEq] at h
        obtain ⟨rfl, rfl⟩ := h
        exact pG_ret (r := some (.int (Z.1 211 56))) rfl ⟨rfl, rfl⟩
      · rw [if_neg hc103] at h
        refine pG_cmf (t := 53) rfl rfl hc103 ?_
        refine pG_many 1 (pc1 := 28) (L1 := [some (.ref 211), some (.int x1)]) (st1 := [.ref 211]) (M1 := mjTo Z) rfl ?_
        refine pG_getR (ci := 12) (f := 54) (b := 239) rfl rfl rfl (by rfl) rfl ?_
        refine pG_many 2 (pc1 := 33) (L1 := [some (.ref 211), some (.int x1)]) (st1 := [.ref 211, .int x1, .ref 239]) (M1 := mjTo Z) rfl ?_
        refine pG_getR (ci := 12) (f := 55) (b := 240) rfl rfl rfl (by rfl) rfl ?_
        refine pG_many 2 (pc1 := 39) (L1 := [some (.ref 211), some (.int x1)]) (st1 := [.ref 211, .int 108, .ref 240, .int x1, .ref 239]) (M1 := mjTo Z) rfl ?_
        refine pG_getI (ci := 12) (f := 56) rfl rfl (Or.inl rfl) (by rfl) ?_
        refine pG_many 3 (pc1 := 45) (L1 := [some (.ref 211), some (.int x1)]) (st1 := [.int ((108 * (Z.1 211 56)) + x1), .ref 240, .int x1, .ref 239]) (M1 := mjTo Z) rfl ?_
        have hk104 : mjIn ((108 * (Z.1 211 56)) + x1) 1080 = true := by
          by_cases q9 : mjIn ((108 * (Z.1 211 56)) + x1) 1080 = true
          · exact q9
          · rw [if_neg q9] at h; cases h
        rw [if_pos hk104] at h
        refine pG_ial rfl (by rfl) hk104 ?_
        have hk105 : mjIn x1 108 = true := by
          by_cases q9 : mjIn x1 108 = true
          · exact q9
          · rw [if_neg q9] at h; cases h
        rw [if_pos hk105] at h
        refine pG_ias rfl (by rfl) hk105 (?_ : pG 239 47 [some (.ref 211), some (.int x1)] [] (mjTo (zSi Z 239 (mjIx x1) (Z.1 240 (mjIx ((108 * (Z.1 211 56)) + x1))))) _)
        rw [mjLet] at h
        generalize zSi Z 239 (mjIx x1) (Z.1 240 (mjIx ((108 * (Z.1 211 56)) + x1))) = Z106 at h ⊢
        refine pG_many 2 (pc1 := 21) (L1 := [some (.ref 211), some (.int (x1 + 1))]) (st1 := []) (M1 := mjTo Z106) rfl ?_
        exact f239_undo_h21_ok n (x1 + 1) Z106 v9 Z9 h
def f239_undo  (Z : mjZt) : Option (Int32 × mjZt) :=
  if mjCmp .ne (Z.1 211 56) 0 = true then
    mjLet (zSi Z 211 56 ((Z.1 211 56) - 1)) fun Z102 =>
    f239_undo_h21 mjF 0 Z102
  else
    some ((-1), Z)
set_option maxRecDepth 4000 in
theorem f239_undo_ok  {Z : mjZt} {v9 : Int32} {Z9 : mjZt} (h : f239_undo  Z = some (v9, Z9)) : pG 239 0 (mjEnt [.ref 211] (mjML 239)) [] (mjTo Z) (fun r M1 => r = some (.int v9) ∧ M1 = mjTo Z9) := by
  unfold f239_undo at h
  show pG 239 0 [some (.ref 211), none] [] (mjTo Z) _
  refine pG_many 1 (pc1 := 1) (L1 := [some (.ref 211), none]) (st1 := [.ref 211]) (M1 := mjTo Z) rfl ?_
  refine pG_getI (ci := 12) (f := 56) rfl rfl (Or.inl rfl) (by rfl) ?_
  by_cases hc101 : mjCmp .ne (Z.1 211 56) 0 = true
  · rw [if_pos hc101] at h
    refine pG_ift (t := 9) rfl rfl hc101 ?_
    refine pG_many 2 (pc1 := 11) (L1 := [some (.ref 211), none]) (st1 := [.ref 211, .ref 211]) (M1 := mjTo Z) rfl ?_
    refine pG_getI (ci := 12) (f := 56) rfl rfl (Or.inl rfl) (by rfl) ?_
    refine pG_many 2 (pc1 := 16) (L1 := [some (.ref 211), none]) (st1 := [.int ((Z.1 211 56) - 1), .ref 211]) (M1 := mjTo Z) rfl ?_
    refine pG_putI (ci := 12) (f := 56) rfl rfl rfl rfl (by rfl) ?_
    rw [mjLet] at h
    generalize zSi Z 211 56 ((Z.1 211 56) - 1) = Z102 at h ⊢
    refine pG_many 2 (pc1 := 21) (L1 := [some (.ref 211), some (.int 0)]) (st1 := []) (M1 := mjTo Z102) rfl ?_
    exact f239_undo_h21_ok mjF 0 Z102 v9 Z9 h
  · rw [if_neg hc101] at h
    refine pG_iff (t := 9) rfl rfl hc101 ?_
    refine pG_many 1 (pc1 := 8) (L1 := [some (.ref 211), none]) (st1 := [.int ((-1))]) (M1 := mjTo Z) rfl ?_
    simp only [Option.some.injEq, Prod.mk.injEq] at h
    obtain ⟨rfl, rfl⟩ := h
    exact pG_ret (r := some (.int ((-1)))) rfl ⟨rfl, rfl⟩
def f240_isTeam (p0 : Int32) (Z : mjZt) : Option Int32 :=
  mjBp (f195_isIn (Int32.toInt64 p0) 0 (Int32.toInt64 ((Z.1 211 39) - 1)) Z) fun v102 =>
  if v102 = 0 ∨ v102 = 1 then
  some v102
  else none
set_option maxRecDepth 4000 in
theorem f240_isTeam_ok {p0 : Int32} {Z : mjZt} {v9 : Int32} (h : f240_isTeam p0 Z = some v9) : pG 240 0 (mjEnt [.ref 211, .int p0] (mjML 240)) [] (mjTo Z) (fun r M1 => r = some (.int v9) ∧ M1 = mjTo Z) := by
  unfold f240_isTeam at h
  show pG 240 0 [some (.ref 211), some (.int p0)] [] (mjTo Z) _
  refine pG_many 4 (pc1 := 4) (L1 := [some (.ref 211), some (.int p0)]) (st1 := [.ref 211, .long 0, .long (Int32.toInt64 p0)]) (M1 := mjTo Z) rfl ?_
  refine pG_getI (ci := 12) (f := 39) rfl rfl (Or.inl rfl) (by rfl) ?_
  refine pG_many 3 (pc1 := 10) (L1 := [some (.ref 211), some (.int p0)]) (st1 := [.long (Int32.toInt64 ((Z.1 211 39) - 1)), .long 0, .long (Int32.toInt64 p0)]) (M1 := mjTo Z) rfl ?_
  cases hq101 : f195_isIn (Int32.toInt64 p0) 0 (Int32.toInt64 ((Z.1 211 39) - 1)) Z with
  | none => rw [hq101] at h; cases h
  | some v102 =>
    rw [hq101, mjBp_some] at h
    refine pG_call (k2 := 195) (As := [.long (Int32.toInt64 p0), .long 0, .long (Int32.toInt64 ((Z.1 211 39) - 1))]) (rest := []) rfl (by decide) (f195_isIn_ok hq101) ?_
    rintro r9 M9 ⟨rfl, rfl⟩
    show pG 240 13 [some (.ref 211), some (.int p0)] [.int v102] (mjTo Z) _
    have hk104 : v102 = 0 ∨ v102 = 1 := by
      by_cases q9 : v102 = 0 ∨ v102 = 1
      · exact q9
      · rw [if_neg q9] at h; cases h
    rw [if_pos hk104] at h
    simp only [Option.some.injEq] at h
    subst h
    exact pG_ret (r := some (.int v102)) (mjRt1_z rfl rfl hk104) ⟨rfl, rfl⟩
def f241_isTenth (p0 : Int32) (Z : mjZt) : Option Int32 :=
  mjBp (f195_isIn (Int32.toInt64 p0) 0 9999 Z) fun v102 =>
  if v102 = 0 ∨ v102 = 1 then
  some v102
  else none
set_option maxRecDepth 4000 in
theorem f241_isTenth_ok {p0 : Int32} {Z : mjZt} {v9 : Int32} (h : f241_isTenth p0 Z = some v9) : pG 241 0 (mjEnt [.ref 211, .int p0] (mjML 241)) [] (mjTo Z) (fun r M1 => r = some (.int v9) ∧ M1 = mjTo Z) := by
  unfold f241_isTenth at h
  show pG 241 0 [some (.ref 211), some (.int p0)] [] (mjTo Z) _
  refine pG_many 4 (pc1 := 6) (L1 := [some (.ref 211), some (.int p0)]) (st1 := [.long 9999, .long 0, .long (Int32.toInt64 p0)]) (M1 := mjTo Z) rfl ?_
  cases hq101 : f195_isIn (Int32.toInt64 p0) 0 9999 Z with
  | none => rw [hq101] at h; cases h
  | some v102 =>
    rw [hq101, mjBp_some] at h
    refine pG_call (k2 := 195) (As := [.long (Int32.toInt64 p0), .long 0, .long 9999]) (rest := []) rfl (by decide) (f195_isIn_ok hq101) ?_
    rintro r9 M9 ⟨rfl, rfl⟩
    show pG 241 9 [some (.ref 211), some (.int p0)] [.int v102] (mjTo Z) _
    have hk104 : v102 = 0 ∨ v102 = 1 := by
      by_cases q9 : v102 = 0 ∨ v102 = 1
      · exact q9
      · rw [if_neg q9] at h; cases h
    rw [if_pos hk104] at h
    simp only [Option.some.injEq] at h
    subst h
    exact pG_ret (r := some (.int v102)) (mjRt1_z rfl rfl hk104) ⟨rfl, rfl⟩
def f242_tenthsOf (p0 : Int32) (p1 : Int32) (Z : mjZt) : Option Int32 :=
  if mjIn ((12 * p0) + (2 * p1)) 108 = true then
  some (Z.1 239 (mjIx ((12 * p0) + (2 * p1))))
  else none
set_option maxRecDepth 4000 in
theorem f242_tenthsOf_ok {p0 : Int32} {p1 : Int32} {Z : mjZt} {v9 : Int32} (h : f242_tenthsOf p0 p1 Z = some v9) : pG 242 0 (mjEnt [.ref 211, .int p0, .int p1] (mjML 242)) [] (mjTo Z) (fun r M1 => r = some (.int v9) ∧ M1 = mjTo Z) := by
  unfold f242_tenthsOf at h
  show pG 242 0 [some (.ref 211), some (.int p0), some (.int p1)] [] (mjTo Z) _
  refine pG_many 1 (pc1 := 1) (L1 := [some (.ref 211), some (.int p0), some (.int p1)]) (st1 := [.ref 211]) (M1 := mjTo Z) rfl ?_
  refine pG_getR (ci := 12) (f := 54) (b := 239) rfl rfl rfl (by rfl) rfl ?_
  refine pG_many 7 (pc1 := 12) (L1 := [some (.ref 211), some (.int p0), some (.int p1)]) (st1 := [.int ((12 * p0) + (2 * p1)), .ref 239]) (M1 := mjTo Z) rfl ?_
  have hk101 : mjIn ((12 * p0) + (2 * p1)) 108 = true := by
    by_cases q9 : mjIn ((12 * p0) + (2 * p1)) 108 = true
    · exact q9
    · rw [if_neg q9] at h; cases h
  rw [if_pos hk101] at h
  refine pG_ial rfl (by rfl) hk101 ?_
  simp only [Option.some.injEq] at h
  subst h
  exact pG_ret (r := some (.int (Z.1 239 (mjIx ((12 * p0) + (2 * p1)))))) rfl ⟨rfl, rfl⟩
def f243_metresOf (p0 : Int32) (p1 : Int32) (Z : mjZt) : Option Int32 :=
  if mjIn (((12 * p0) + (2 * p1)) + 1) 108 = true then
  some (Z.1 239 (mjIx (((12 * p0) + (2 * p1)) + 1)))
  else none
set_option maxRecDepth 4000 in
theorem f243_metresOf_ok {p0 : Int32} {p1 : Int32} {Z : mjZt} {v9 : Int32} (h : f243_metresOf p0 p1 Z = some v9) : pG 243 0 (mjEnt [.ref 211, .int p0, .int p1] (mjML 243)) [] (mjTo Z) (fun r M1 => r = some (.int v9) ∧ M1 = mjTo Z) := by
  unfold f243_metresOf at h
  show pG 243 0 [some (.ref 211), some (.int p0), some (.int p1)] [] (mjTo Z) _
  refine pG_many 1 (pc1 := 1) (L1 := [some (.ref 211), some (.int p0), some (.int p1)]) (st1 := [.ref 211]) (M1 := mjTo Z) rfl ?_
  refine pG_getR (ci := 12) (f := 54) (b := 239) rfl rfl rfl (by rfl) rfl ?_
  refine pG_many 9 (pc1 := 14) (L1 := [some (.ref 211), some (.int p0), some (.int p1)]) (st1 := [.int (((12 * p0) + (2 * p1)) + 1), .ref 239]) (M1 := mjTo Z) rfl ?_
  have hk101 : mjIn (((12 * p0) + (2 * p1)) + 1) 108 = true := by
    by_cases q9 : mjIn (((12 * p0) + (2 * p1)) + 1) 108 = true
    · exact q9
    · rw [if_neg q9] at h; cases h
  rw [if_pos hk101] at h
  refine pG_ial rfl (by rfl) hk101 ?_
  simp only [Option.some.injEq] at h
  subst h
  exact pG_ret (r := some (.int (Z.1 239 (mjIx (((12 * p0) + (2 * p1)) + 1))))) rfl ⟨rfl, rfl⟩
def f244_endPlace (p0 : Int32) (p1 : Int32) (Z : mjZt) : Option Int32 :=
  if mjCmp .ge p1 0 = true then
    mjBp (f243_metresOf p0 p1 Z) fun v103 =>
    some (10 * (((p1 + 1) * (Z.1 229 1)) + v103))
  else
    some 0
set_option maxRecDepth 4000 in
theorem f244_endPlace_ok {p0 : Int32} {p1 : Int32} {Z : mjZt} {v9 : Int32} (h : f244_endPlace p0 p1 Z = some v9) : pG 244 0 (mjEnt [.ref 211, .int p0, .int p1] (mjML 244)) [] (mjTo Z) (fun r M1 => r = some (.int v9) ∧ M1 = mjTo Z) := by
  unfold f244_endPlace at h
  show pG 244 0 [some (.ref 211), some (.int p0), some (.int p1)] [] (mjTo Z) _
  refine pG_many 1 (pc1 := 1) (L1 := [some (.ref 211), some (.int p0), some (.int p1)]) (st1 := [.int p1]) (M1 := mjTo Z) rfl ?_
  by_cases hc101 : mjCmp .ge p1 0 = true
  · rw [if_pos hc101] at h
    refine pG_ift (t := 8) rfl rfl hc101 ?_
    refine pG_many 5 (pc1 := 14) (L1 := [some (.ref 211), some (.int p0), some (.int p1)]) (st1 := [.ref 211, .int (p1 + 1), .int 10]) (M1 := mjTo Z) rfl ?_
    refine pG_getR (ci := 12) (f := 44) (b := 229) rfl rfl rfl (by rfl) rfl ?_
    refine pG_many 1 (pc1 := 18) (L1 := [some (.ref 211), some (.int p0), some (.int p1)]) (st1 := [.int 1, .ref 229, .int (p1 + 1), .int 10]) (M1 := mjTo Z) rfl ?_
    refine pG_ial rfl (by rfl) (by decide) ?_
    refine pG_many 4 (pc1 := 23) (L1 := [some (.ref 211), some (.int p0), some (.int p1)]) (st1 := [.int p1, .int p0, .ref 211, .int ((p1 + 1) * (Z.1 229 1)), .int 10]) (M1 := mjTo Z) rfl ?_
    cases hq102 : f243_metresOf p0 p1 Z with
    | none => rw [hq102] at h; cases h
    | some v103 =>
      rw [hq102, mjBp_some] at h
      refine pG_callV (k2 := 243) (As := [.ref 211, .int p0, .int p1]) (rest := [.int ((p1 + 1) * (Z.1 229 1)), .int 10]) rfl rfl rfl rfl rfl (by rfl) (by decide) (f243_metresOf_ok hq102) ?_
      rintro r9 M9 ⟨rfl, rfl⟩
      show pG 244 26 [some (.ref 211), some (.int p0), some (.int p1)] [.int v103, .int ((p1 + 1) * (Z.1 229 1)), .int 10] (mjTo Z) _
      refine pG_many 2 (pc1 := 28) (L1 := [some (.ref 211), some (.int p0), some (.int p1)]) (st1 := [.int (10 * (((p1 + 1) * (Z.1 229 1)) + v103))]) (M1 := mjTo Z) rfl ?_
      simp only [Option.some.injEq] at h
      subst h
      exact pG_ret (r := some (.int (10 * (((p1 + 1) * (Z.1 229 1)) + v103)))) rfl ⟨rfl, rfl⟩
  · rw [if_neg hc101] at h
    refine pG_iff (t := 8) rfl rfl hc101 ?_
    refine pG_many 2 (pc1 := 28) (L1 := [some (.ref 211), some (.int p0), some (.int p1)]) (st1 := [.int 0]) (M1 := mjTo Z) rfl ?_
    simp only [Option.some.injEq] at h
    subst h
    exact pG_ret (r := some (.int 0)) rfl ⟨rfl, rfl⟩
def f245_endTenth_h5 : Nat → Int32 → Int32 → Int32 → Int32 → mjZt → Option Int32
  | 0, _, _, _, _, _ => none
  | n + 1, x1, x2, x3, x4, Z =>
    if mjCmp .gt x4 x2 = true then
      some x3
    else
      mjBp (f242_tenthsOf x1 x4 Z) fun v103 =>
      f245_endTenth_h5 n x1 x2 (x3 + v103) (x4 + 1) Z
set_option maxRecDepth 4000 in
theorem f245_endTenth_h5_ok : ∀ (n : Nat) (x1 : Int32) (x2 : Int32) (x3 : Int32) (x4 : Int32) (Z : mjZt) (v9 : Int32), f245_endTenth_h5 n x1 x2 x3 x4 Z = some v9 → pG 245 5 [some (.ref 211), some (.int x1), some (.int x2), some (.int x3), some (.int x4)] [] (mjTo Z) (fun r M1 => r = some (.int v9) ∧ M1 = mjTo Z)
  | 0, x1, x2, x3, x4, Z, v9, h => by rw [f245_endTenth_h5] at h; cases h
  | n + 1, x1, x2, x3, x4, Z, v9, h => by
      rw [f245_endTenth_h5] at h
      refine pG_many 2 (pc1 := 8) (L1 := [some (.ref 211), some (.int x1), some (.int x2), some (.int x3), some (.int x4)]) (st1 := [.int x2, .int x4]) (M1 := mjTo Z) rfl ?_
      by_cases hc101 : mjCmp .gt x4 x2 = true
      · rw [if_pos hc101] at h
        refine pG_cmt (t := 27) rfl rfl hc101 ?_
        refine pG_many 1 (pc1 := 28) (L1 := [some (.ref 211), some (.int x1), some (.int x2), some (.int x3), some (.int x4)]) (st1 := [.int x3]) (M1 := mjTo Z) rfl ?_
        simp only [Option.some.injEq] at h
        subst h
        exact pG_ret (r := some (.int x3)) rfl ⟨rfl, rfl⟩
      · rw [if_neg hc101] at h
        refine pG_cmf (t := 27) rfl rfl hc101 ?_
        refine pG_many 4 (pc1 := 16) (L1 := [some (.ref 211), some (.int x1), some (.int x2), some (.int x3), some (.int x4)]) (st1 := [.int x4, .int x1, .ref 211, .int x3]) (M1 := mjTo Z) rfl ?_
        cases hq102 : f242_tenthsOf x1 x4 Z with
        | none => rw [hq102] at h; cases h
        | some v103 =>
          rw [hq102, mjBp_some] at h
          refine pG_callV (k2 := 242) (As := [.ref 211, .int x1, .int x4]) (rest := [.int x3]) rfl rfl rfl rfl rfl (by rfl) (by decide) (f242_tenthsOf_ok hq102) ?_
          rintro r9 M9 ⟨rfl, rfl⟩
          show pG 245 19 [some (.ref 211), some (.int x1), some (.int x2), some (.int x3), some (.int x4)] [.int v103, .int x3] (mjTo Z) _
          refine pG_many 4 (pc1 := 5) (L1 := [some (.ref 211), some (.int x1), some (.int x2), some (.int (x3 + v103)), some (.int (x4 + 1))]) (st1 := []) (M1 := mjTo Z) rfl ?_
          exact f245_endTenth_h5_ok n x1 x2 (x3 + v103) (x4 + 1) Z v9 h
def f245_endTenth (p0 : Int32) (p1 : Int32) (Z : mjZt) : Option Int32 :=
  f245_endTenth_h5 mjF p0 p1 0 0 Z
set_option maxRecDepth 4000 in
theorem f245_endTenth_ok {p0 : Int32} {p1 : Int32} {Z : mjZt} {v9 : Int32} (h : f245_endTenth p0 p1 Z = some v9) : pG 245 0 (mjEnt [.ref 211, .int p0, .int p1] (mjML 245)) [] (mjTo Z) (fun r M1 => r = some (.int v9) ∧ M1 = mjTo Z) := by
  unfold f245_endTenth at h
  show pG 245 0 [some (.ref 211), some (.int p0), some (.int p1), none, none] [] (mjTo Z) _
  refine pG_many 4 (pc1 := 5) (L1 := [some (.ref 211), some (.int p0), some (.int p1), some (.int 0), some (.int 0)]) (st1 := []) (M1 := mjTo Z) rfl ?_
  exact f245_endTenth_h5_ok mjF p0 p1 0 0 Z v9 h
def f246_timeOf (p0 : Int32) (Z : mjZt) : Option Int32 :=
  if mjIn p0 6 = true then
  mjBp (f245_endTenth p0 ((Z.1 231 (mjIx p0)) - 1) Z) fun v103 =>
  some v103
  else none
set_option maxRecDepth 4000 in
theorem f246_timeOf_ok {p0 : Int32} {Z : mjZt} {v9 : Int32} (h : f246_timeOf p0 Z = some v9) : pG 246 0 (mjEnt [.ref 211, .int p0] (mjML 246)) [] (mjTo Z) (fun r M1 => r = some (.int v9) ∧ M1 = mjTo Z) := by
  unfold f246_timeOf at h
  show pG 246 0 [some (.ref 211), some (.int p0)] [] (mjTo Z) _
  refine pG_many 3 (pc1 := 3) (L1 := [some (.ref 211), some (.int p0)]) (st1 := [.ref 211, .int p0, .ref 211]) (M1 := mjTo Z) rfl ?_
  refine pG_getR (ci := 12) (f := 46) (b := 231) rfl rfl rfl (by rfl) rfl ?_
  refine pG_many 1 (pc1 := 7) (L1 := [some (.ref 211), some (.int p0)]) (st1 := [.int p0, .ref 231, .int p0, .ref 211]) (M1 := mjTo Z) rfl ?_
  have hk101 : mjIn p0 6 = true := by
    by_cases q9 : mjIn p0 6 = true
    · exact q9
    · rw [if_neg q9] at h; cases h
  rw [if_pos hk101] at h
  refine pG_ial rfl (by rfl) hk101 ?_
  refine pG_many 2 (pc1 := 10) (L1 := [some (.ref 211), some (.int p0)]) (st1 := [.int ((Z.1 231 (mjIx p0)) - 1), .int p0, .ref 211]) (M1 := mjTo Z) rfl ?_
  cases hq102 : f245_endTenth p0 ((Z.1 231 (mjIx p0)) - 1) Z with
  | none => rw [hq102] at h; cases h
  | some v103 =>
    rw [hq102, mjBp_some] at h
    refine pG_callV (k2 := 245) (As := [.ref 211, .int p0, .int ((Z.1 231 (mjIx p0)) - 1)]) (rest := []) rfl rfl rfl rfl rfl (by rfl) (by decide) (f245_endTenth_ok hq102) ?_
    rintro r9 M9 ⟨rfl, rfl⟩
    show pG 246 13 [some (.ref 211), some (.int p0)] [.int v103] (mjTo Z) _
    simp only [Option.some.injEq] at h
    subst h
    exact pG_ret (r := some (.int v103)) rfl ⟨rfl, rfl⟩
def f247_isWhole (p0 : Int32) (Z : mjZt) : Option Int32 :=
  if mjIn p0 6 = true then
  if mjCmp .ne (Z.1 231 (mjIx p0)) (Z.1 229 0) = true then
    some 0
  else
    some 1
  else none
set_option maxRecDepth 4000 in
theorem f247_isWhole_ok {p0 : Int32} {Z : mjZt} {v9 : Int32} (h : f247_isWhole p0 Z = some v9) : pG 247 0 (mjEnt [.ref 211, .int p0] (mjML 247)) [] (mjTo Z) (fun r M1 => r = some (.int v9) ∧ M1 = mjTo Z) := by
  unfold f247_isWhole at h
  show pG 247 0 [some (.ref 211), some (.int p0)] [] (mjTo Z) _
  refine pG_many 1 (pc1 := 1) (L1 := [some (.ref 211), some (.int p0)]) (st1 := [.ref 211]) (M1 := mjTo Z) rfl ?_
  refine pG_getR (ci := 12) (f := 46) (b := 231) rfl rfl rfl (by rfl) rfl ?_
  refine pG_many 1 (pc1 := 5) (L1 := [some (.ref 211), some (.int p0)]) (st1 := [.int p0, .ref 231]) (M1 := mjTo Z) rfl ?_
  have hk101 : mjIn p0 6 = true := by
    by_cases q9 : mjIn p0 6 = true
    · exact q9
    · rw [if_neg q9] at h; cases h
  rw [if_pos hk101] at h
  refine pG_ial rfl (by rfl) hk101 ?_
  refine pG_many 1 (pc1 := 7) (L1 := [some (.ref 211), some (.int p0)]) (st1 := [.ref 211, .int (Z.1 231 (mjIx p0))]) (M1 := mjTo Z) rfl ?_
  refine pG_getR (ci := 12) (f := 44) (b := 229) rfl rfl rfl (by rfl) rfl ?_
  refine pG_many 1 (pc1 := 11) (L1 := [some (.ref 211), some (.int p0)]) (st1 := [.int 0, .ref 229, .int (Z.1 231 (mjIx p0))]) (M1 := mjTo Z) rfl ?_
  refine pG_ial rfl (by rfl) (by decide) ?_
  by_cases hc102 : mjCmp .ne (Z.1 231 (mjIx p0)) (Z.1 229 0) = true
  · rw [if_pos hc102] at h
    refine pG_cmt (t := 19) rfl rfl hc102 ?_
    refine pG_many 1 (pc1 := 20) (L1 := [some (.ref 211), some (.int p0)]) (st1 := [.int 0]) (M1 := mjTo Z) rfl ?_
    simp only [Option.some.injEq] at h
    subst h
    exact pG_ret (r := some (.int 0)) rfl ⟨rfl, rfl⟩
  · rw [if_neg hc102] at h
    refine pG_cmf (t := 19) rfl rfl hc102 ?_
    refine pG_many 2 (pc1 := 20) (L1 := [some (.ref 211), some (.int p0)]) (st1 := [.int 1]) (M1 := mjTo Z) rfl ?_
    simp only [Option.some.injEq] at h
    subst h
    exact pG_ret (r := some (.int 1)) rfl ⟨rfl, rfl⟩
def f248_legAt_h2 : Nat → Int32 → Int32 → Int32 → mjZt → Option Int32
  | 0, _, _, _, _ => none
  | n + 1, x1, x2, x3, Z =>
    if mjIn x1 6 = true then
    if mjCmp .ge x3 ((Z.1 231 (mjIx x1)) - 1) = true then
      some x3
    else
      mjBp (f245_endTenth x1 x3 Z) fun v104 =>
      if mjCmp .ge v104 x2 = true then
        some x3
      else
        f248_legAt_h2 n x1 x2 (x3 + 1) Z
    else none
set_option maxRecDepth 4000 in
theorem f248_legAt_h2_ok : ∀ (n : Nat) (x1 : Int32) (x2 : Int32) (x3 : Int32) (Z : mjZt) (v9 : Int32), f248_legAt_h2 n x1 x2 x3 Z = some v9 → pG 248 2 [some (.ref 211), some (.int x1), some (.int x2), some (.int x3)] [] (mjTo Z) (fun r M1 => r = some (.int v9) ∧ M1 = mjTo Z)
  | 0, x1, x2, x3, Z, v9, h => by rw [f248_legAt_h2] at h; cases h
  | n + 1, x1, x2, x3, Z, v9, h => by
      rw [f248_legAt_h2] at h
      refine pG_many 2 (pc1 := 4) (L1 := [some (.ref 211), some (.int x1), some (.int x2), some (.int x3)]) (st1 := [.ref 211, .int x3]) (M1 := mjTo Z) rfl ?_
      refine pG_getR (ci := 12) (f := 46) (b := 231) rfl rfl rfl (by rfl) rfl ?_
      refine pG_many 1 (pc1 := 8) (L1 := [some (.ref 211), some (.int x1), some (.int x2), some (.int x3)]) (st1 := [.int x1, .ref 231, .int x3]) (M1 := mjTo Z) rfl ?_
      have hk101 : mjIn x1 6 = true := by
        by_cases q9 : mjIn x1 6 = true
        · exact q9
        · rw [if_neg q9] at h; cases h
      rw [if_pos hk101] at h
      refine pG_ial rfl (by rfl) hk101 ?_
      refine pG_many 2 (pc1 := 11) (L1 := [some (.ref 211), some (.int x1), some (.int x2), some (.int x3)]) (st1 := [.int ((Z.1 231 (mjIx x1)) - 1), .int x3]) (M1 := mjTo Z) rfl ?_
      by_cases hc102 : mjCmp .ge x3 ((Z.1 231 (mjIx x1)) - 1) = true
      · rw [if_pos hc102] at h
        refine pG_cmt (t := 30) rfl rfl hc102 ?_
        refine pG_many 1 (pc1 := 31) (L1 := [some (.ref 211), some (.int x1), some (.int x2), some (.int x3)]) (st1 := [.int x3]) (M1 := mjTo Z) rfl ?_
        simp only [Option.some.injEq] at h
        subst h
        exact pG_ret (r := some (.int x3)) rfl ⟨rfl, rfl⟩
      · rw [if_neg hc102] at h
        refine pG_cmf (t := 30) rfl rfl hc102 ?_
        refine pG_many 3 (pc1 := 17) (L1 := [some (.ref 211), some (.int x1), some (.int x2), some (.int x3)]) (st1 := [.int x3, .int x1, .ref 211]) (M1 := mjTo Z) rfl ?_
        cases hq103 : f245_endTenth x1 x3 Z with
        | none => rw [hq103] at h; cases h
        | some v104 =>
          rw [hq103, mjBp_some] at h
          refine pG_callV (k2 := 245) (As := [.ref 211, .int x1, .int x3]) (rest := []) rfl rfl rfl rfl rfl (by rfl) (by decide) (f245_endTenth_ok hq103) ?_
          rintro r9 M9 ⟨rfl, rfl⟩
          show pG 248 20 [some (.ref 211), some (.int x1), some (.int x2), some (.int x3)] [.int v104] (mjTo Z) _
          refine pG_many 1 (pc1 := 21) (L1 := [some (.ref 211), some (.int x1), some (.int x2), some (.int x3)]) (st1 := [.int x2, .int v104]) (M1 := mjTo Z) rfl ?_
          by_cases hc106 : mjCmp .ge v104 x2 = true
          · rw [if_pos hc106] at h
            refine pG_cmt (t := 30) rfl rfl hc106 ?_
            refine pG_many 1 (pc1 := 31) (L1 := [some (.ref 211), some (.int x1), some (.int x2), some (.int x3)]) (st1 := [.int x3]) (M1 := mjTo Z) rfl ?_
            simp only [Option.some.injEq] at h
            subst h
            exact pG_ret (r := some (.int x3)) rfl ⟨rfl, rfl⟩
          · rw [if_neg hc106] at h
            refine pG_cmf (t := 30) rfl rfl hc106 ?_
            refine pG_many 2 (pc1 := 2) (L1 := [some (.ref 211), some (.int x1), some (.int x2), some (.int (x3 + 1))]) (st1 := []) (M1 := mjTo Z) rfl ?_
            exact f248_legAt_h2_ok n x1 x2 (x3 + 1) Z v9 h
def f248_legAt (p0 : Int32) (p1 : Int32) (Z : mjZt) : Option Int32 :=
  f248_legAt_h2 mjF p0 p1 0 Z
set_option maxRecDepth 4000 in
theorem f248_legAt_ok {p0 : Int32} {p1 : Int32} {Z : mjZt} {v9 : Int32} (h : f248_legAt p0 p1 Z = some v9) : pG 248 0 (mjEnt [.ref 211, .int p0, .int p1] (mjML 248)) [] (mjTo Z) (fun r M1 => r = some (.int v9) ∧ M1 = mjTo Z) := by
  unfold f248_legAt at h
  show pG 248 0 [some (.ref 211), some (.int p0), some (.int p1), none] [] (mjTo Z) _
  refine pG_many 2 (pc1 := 2) (L1 := [some (.ref 211), some (.int p0), some (.int p1), some (.int 0)]) (st1 := []) (M1 := mjTo Z) rfl ?_
  exact f248_legAt_h2_ok mjF p0 p1 0 Z v9 h
def f249_placeOf (p0 : Int32) (p1 : Int32) (Z : mjZt) : Option Int32 :=
  if mjIn p0 6 = true then
  if mjCmp .eq (Z.1 231 (mjIx p0)) 0 = true then
    some 0
  else
    if mjCmp .gt p1 0 = true then
      mjBp (f248_legAt p0 p1 Z) fun v105 =>
      mjBp (f245_endTenth p0 (v105 - 1) Z) fun v108 =>
      mjBp (f244_endPlace p0 (v105 - 1) Z) fun v111 =>
      mjBp (f244_endPlace p0 v105 Z) fun v114 =>
      mjBp (f242_tenthsOf p0 v105 Z) fun v117 =>
      if mjCmp .lt (p1 - v108) v117 = true then
        if ¬ v117 = 0 then
        some (v111 + (((p1 - v108) * (v114 - v111)) / v117))
        else none
      else
        some v114
    else
      some 0
  else none
set_option maxRecDepth 4000 in
theorem f249_placeOf_ok {p0 : Int32} {p1 : Int32} {Z : mjZt} {v9 : Int32} (h : f249_placeOf p0 p1 Z = some v9) : pG 249 0 (mjEnt [.ref 211, .int p0, .int p1] (mjML 249)) [] (mjTo Z) (fun r M1 => r = some (.int v9) ∧ M1 = mjTo Z) := by
  unfold f249_placeOf at h
  show pG 249 0 [some (.ref 211), some (.int p0), some (.int p1), none, none, none, none] [] (mjTo Z) _
  refine pG_many 1 (pc1 := 1) (L1 := [some (.ref 211), some (.int p0), some (.int p1), none, none, none, none]) (st1 := [.ref 211]) (M1 := mjTo Z) rfl ?_
  refine pG_getR (ci := 12) (f := 46) (b := 231) rfl rfl rfl (by rfl) rfl ?_
  refine pG_many 1 (pc1 := 5) (L1 := [some (.ref 211), some (.int p0), some (.int p1), none, none, none, none]) (st1 := [.int p0, .ref 231]) (M1 := mjTo Z) rfl ?_
  have hk101 : mjIn p0 6 = true := by
    by_cases q9 : mjIn p0 6 = true
    · exact q9
    · rw [if_neg q9] at h; cases h
  rw [if_pos hk101] at h
  refine pG_ial rfl (by rfl) hk101 ?_
  by_cases hc102 : mjCmp .eq (Z.1 231 (mjIx p0)) 0 = true
  · rw [if_pos hc102] at h
    refine pG_ift (t := 13) rfl rfl hc102 ?_
    refine pG_many 1 (pc1 := 14) (L1 := [some (.ref 211), some (.int p0), some (.int p1), none, none, none, none]) (st1 := [.int 0]) (M1 := mjTo Z) rfl ?_
    simp only [Option.some.injEq] at h
    subst h
    exact pG_ret (r := some (.int 0)) rfl ⟨rfl, rfl⟩
  · rw [if_neg hc102] at h
    refine pG_iff (t := 13) rfl rfl hc102 ?_
    refine pG_many 1 (pc1 := 10) (L1 := [some (.ref 211), some (.int p0), some (.int p1), none, none, none, none]) (st1 := [.int p1]) (M1 := mjTo Z) rfl ?_
    by_cases hc103 : mjCmp .gt p1 0 = true
    · rw [if_pos hc103] at h
      refine pG_ift (t := 15) rfl rfl hc103 ?_
      refine pG_many 3 (pc1 := 18) (L1 := [some (.ref 211), some (.int p0), some (.int p1), none, none, none, none]) (st1 := [.int p1, .int p0, .ref 211]) (M1 := mjTo Z) rfl ?_
      cases hq104 : f248_legAt p0 p1 Z with
      | none => rw [hq104] at h; cases h
      | some v105 =>
        rw [hq104, mjBp_some] at h
        refine pG_callV (k2 := 248) (As := [.ref 211, .int p0, .int p1]) (rest := []) rfl rfl rfl rfl rfl (by rfl) (by decide) (f248_legAt_ok hq104) ?_
        rintro r9 M9 ⟨rfl, rfl⟩
        show pG 249 21 [some (.ref 211), some (.int p0), some (.int p1), none, none, none, none] [.int v105] (mjTo Z) _
        refine pG_many 7 (pc1 := 28) (L1 := [some (.ref 211), some (.int p0), some (.int p1), some (.int v105), none, none, none]) (st1 := [.int (v105 - 1), .int p0, .ref 211, .int p1]) (M1 := mjTo Z) rfl ?_
        cases hq107 : f245_endTenth p0 (v105 - 1) Z with
        | none => rw [hq107] at h; cases h
        | some v108 =>
          rw [hq107, mjBp_some] at h
          refine pG_callV (k2 := 245) (As := [.ref 211, .int p0, .int (v105 - 1)]) (rest := [.int p1]) rfl rfl rfl rfl rfl (by rfl) (by decide) (f245_endTenth_ok hq107) ?_
          rintro r9 M9 ⟨rfl, rfl⟩
          show pG 249 31 [some (.ref 211), some (.int p0), some (.int p1), some (.int v105), none, none, none] [.int v108, .int p1] (mjTo Z) _
          refine pG_many 7 (pc1 := 39) (L1 := [some (.ref 211), some (.int p0), some (.int p1), some (.int v105), some (.int (p1 - v108)), none, none]) (st1 := [.int (v105 - 1), .int p0, .ref 211]) (M1 := mjTo Z) rfl ?_
          cases hq110 : f244_endPlace p0 (v105 - 1) Z with
          | none => rw [hq110] at h; cases h
          | some v111 =>
            rw [hq110, mjBp_some] at h
            refine pG_callV (k2 := 244) (As := [.ref 211, .int p0, .int (v105 - 1)]) (rest := []) rfl rfl rfl rfl rfl (by rfl) (by decide) (f244_endPlace_ok hq110) ?_
            rintro r9 M9 ⟨rfl, rfl⟩
            show pG 249 42 [some (.ref 211), some (.int p0), some (.int p1), some (.int v105), some (.int (p1 - v108)), none, none] [.int v111] (mjTo Z) _
            refine pG_many 4 (pc1 := 47) (L1 := [some (.ref 211), some (.int p0), some (.int p1), some (.int v105), some (.int (p1 - v108)), some (.int v111), none]) (st1 := [.int v105, .int p0, .ref 211]) (M1 := mjTo Z) rfl ?_
            cases hq113 : f244_endPlace p0 v105 Z with
            | none => rw [hq113] at h; cases h
            | some v114 =>
              rw [hq113, mjBp_some] at h
              refine pG_callV (k2 := 244) (As := [.ref 211, .int p0, .int v105]) (rest := []) rfl rfl rfl rfl rfl (by rfl) (by decide) (f244_endPlace_ok hq113) ?_
              rintro r9 M9 ⟨rfl, rfl⟩
              show pG 249 50 [some (.ref 211), some (.int p0), some (.int p1), some (.int v105), some (.int (p1 - v108)), some (.int v111), none] [.int v114] (mjTo Z) _
              refine pG_many 5 (pc1 := 57) (L1 := [some (.ref 211), some (.int p0), some (.int p1), some (.int v105), some (.int (p1 - v108)), some (.int v111), some (.int v114)]) (st1 := [.int v105, .int p0, .ref 211, .int (p1 - v108)]) (M1 := mjTo Z) rfl ?_
              cases hq116 : f242_tenthsOf p0 v105 Z with
              | none => rw [hq116] at h; cases h
              | some v117 =>
                rw [hq116, mjBp_some] at h
                refine pG_callV (k2 := 242) (As := [.ref 211, .int p0, .int v105]) (rest := [.int (p1 - v108)]) rfl rfl rfl rfl rfl (by rfl) (by decide) (f242_tenthsOf_ok hq116) ?_
                rintro r9 M9 ⟨rfl, rfl⟩
                show pG 249 60 [some (.ref 211), some (.int p0), some (.int p1), some (.int v105), some (.int (p1 - v108)), some (.int v111), some (.int v114)] [.int v117, .int (p1 - v108)] (mjTo Z) _
                by_cases hc119 : mjCmp .lt (p1 - v108) v117 = true
                · rw [if_pos hc119] at h
                  refine pG_cmt (t := 68) rfl rfl hc119 ?_
                  refine pG_many 9 (pc1 := 81) (L1 := [some (.ref 211), some (.int p0), some (.int p1), some (.int v105), some (.int (p1 - v108)), some (.int v111), some (.int v114)]) (st1 := [.int v105, .int p0, .ref 211, .int ((p1 - v108) * (v114 - v111)), .int v111]) (M1 := mjTo Z) rfl ?_
                  refine pG_callV (k2 := 242) (As := [.ref 211, .int p0, .int v105]) (rest := [.int ((p1 - v108) * (v114 - v111)), .int v111]) rfl rfl rfl rfl rfl (by rfl) (by decide) (f242_tenthsOf_ok hq116) ?_
                  rintro r9 M9 ⟨rfl, rfl⟩
                  show pG 249 84 [some (.ref 211), some (.int p0), some (.int p1), some (.int v105), some (.int (p1 - v108)), some (.int v111), some (.int v114)] [.int v117, .int ((p1 - v108) * (v114 - v111)), .int v111] (mjTo Z) _
                  have hk123 : ¬ v117 = 0 := by
                    by_cases q9 : ¬ v117 = 0
                    · exact q9
                    · rw [if_neg q9] at h; cases h
                  rw [if_pos hk123] at h
                  refine pG_div rfl hk123 ?_
                  refine pG_many 1 (pc1 := 86) (L1 := [some (.ref 211), some (.int p0), some (.int p1), some (.int v105), some (.int (p1 - v108)), some (.int v111), some (.int v114)]) (st1 := [.int (v111 + (((p1 - v108) * (v114 - v111)) / v117))]) (M1 := mjTo Z) rfl ?_
                  simp only [Option.some.injEq] at h
                  subst h
                  exact pG_ret (r := some (.int (v111 + (((p1 - v108) * (v114 - v111)) / v117)))) rfl ⟨rfl, rfl⟩
                · rw [if_neg hc119] at h
                  refine pG_cmf (t := 68) rfl rfl hc119 ?_
                  refine pG_many 2 (pc1 := 86) (L1 := [some (.ref 211), some (.int p0), some (.int p1), some (.int v105), some (.int (p1 - v108)), some (.int v111), some (.int v114)]) (st1 := [.int v114]) (M1 := mjTo Z) rfl ?_
                  simp only [Option.some.injEq] at h
                  subst h
                  exact pG_ret (r := some (.int v114)) rfl ⟨rfl, rfl⟩
    · rw [if_neg hc103] at h
      refine pG_iff (t := 15) rfl rfl hc103 ?_
      refine pG_many 1 (pc1 := 14) (L1 := [some (.ref 211), some (.int p0), some (.int p1), none, none, none, none]) (st1 := [.int 0]) (M1 := mjTo Z) rfl ?_
      simp only [Option.some.injEq] at h
      subst h
      exact pG_ret (r := some (.int 0)) rfl ⟨rfl, rfl⟩
def f250_boxesOf (p0 : Int32) (Z : mjZt) : Option Int32 :=
  if mjIn p0 6 = true then
  if mjCmp .ge (Z.1 231 (mjIx p0)) (Z.1 229 0) = true then
    some ((Z.1 229 0) - 1)
  else
    some (Z.1 231 (mjIx p0))
  else none
set_option maxRecDepth 4000 in
theorem f250_boxesOf_ok {p0 : Int32} {Z : mjZt} {v9 : Int32} (h : f250_boxesOf p0 Z = some v9) : pG 250 0 (mjEnt [.ref 211, .int p0] (mjML 250)) [] (mjTo Z) (fun r M1 => r = some (.int v9) ∧ M1 = mjTo Z) := by
  unfold f250_boxesOf at h
  show pG 250 0 [some (.ref 211), some (.int p0)] [] (mjTo Z) _
  refine pG_many 1 (pc1 := 1) (L1 := [some (.ref 211), some (.int p0)]) (st1 := [.ref 211]) (M1 := mjTo Z) rfl ?_
  refine pG_getR (ci := 12) (f := 46) (b := 231) rfl rfl rfl (by rfl) rfl ?_
  refine pG_many 1 (pc1 := 5) (L1 := [some (.ref 211), some (.int p0)]) (st1 := [.int p0, .ref 231]) (M1 := mjTo Z) rfl ?_
  have hk101 : mjIn p0 6 = true := by
    by_cases q9 : mjIn p0 6 = true
    · exact q9
    · rw [if_neg q9] at h; cases h
  rw [if_pos hk101] at h
  refine pG_ial rfl (by rfl) hk101 ?_
  refine pG_many 1 (pc1 := 7) (L1 := [some (.ref 211), some (.int p0)]) (st1 := [.ref 211, .int (Z.1 231 (mjIx p0))]) (M1 := mjTo Z) rfl ?_
  refine pG_getR (ci := 12) (f := 44) (b := 229) rfl rfl rfl (by rfl) rfl ?_
  refine pG_many 1 (pc1 := 11) (L1 := [some (.ref 211), some (.int p0)]) (st1 := [.int 0, .ref 229, .int (Z.1 231 (mjIx p0))]) (M1 := mjTo Z) rfl ?_
  refine pG_ial rfl (by rfl) (by decide) ?_
  by_cases hc102 : mjCmp .ge (Z.1 231 (mjIx p0)) (Z.1 229 0) = true
  · rw [if_pos hc102] at h
    refine pG_cmt (t := 24) rfl rfl hc102 ?_
    refine pG_many 1 (pc1 := 25) (L1 := [some (.ref 211), some (.int p0)]) (st1 := [.ref 211]) (M1 := mjTo Z) rfl ?_
    refine pG_getR (ci := 12) (f := 44) (b := 229) rfl rfl rfl (by rfl) rfl ?_
    refine pG_many 1 (pc1 := 29) (L1 := [some (.ref 211), some (.int p0)]) (st1 := [.int 0, .ref 229]) (M1 := mjTo Z) rfl ?_
    refine pG_ial rfl (by rfl) (by decide) ?_
    refine pG_many 2 (pc1 := 32) (L1 := [some (.ref 211), some (.int p0)]) (st1 := [.int ((Z.1 229 0) - 1)]) (M1 := mjTo Z) rfl ?_
    simp only [Option.some.injEq] at h
    subst h
    exact pG_ret (r := some (.int ((Z.1 229 0) - 1))) rfl ⟨rfl, rfl⟩
  · rw [if_neg hc102] at h
    refine pG_cmf (t := 24) rfl rfl hc102 ?_
    refine pG_many 1 (pc1 := 16) (L1 := [some (.ref 211), some (.int p0)]) (st1 := [.ref 211]) (M1 := mjTo Z) rfl ?_
    refine pG_getR (ci := 12) (f := 46) (b := 231) rfl rfl rfl (by rfl) rfl ?_
    refine pG_many 1 (pc1 := 20) (L1 := [some (.ref 211), some (.int p0)]) (st1 := [.int p0, .ref 231]) (M1 := mjTo Z) rfl ?_
    refine pG_ial rfl (by rfl) hk101 ?_
    refine pG_many 1 (pc1 := 32) (L1 := [some (.ref 211), some (.int p0)]) (st1 := [.int (Z.1 231 (mjIx p0))]) (M1 := mjTo Z) rfl ?_
    simp only [Option.some.injEq] at h
    subst h
    exact pG_ret (r := some (.int (Z.1 231 (mjIx p0)))) rfl ⟨rfl, rfl⟩
def f251_allActs_h7 : Nat → Int32 → Int32 → mjZt → Option Int32
  | 0, _, _, _ => none
  | n + 1, x1, x2, Z =>
    if mjCmp .ge x2 (Z.1 211 39) = true then
      some x1
    else
      mjBp (f250_boxesOf x2 Z) fun v103 =>
      f251_allActs_h7 n (x1 + v103) (x2 + 1) Z
set_option maxRecDepth 4000 in
theorem f251_allActs_h7_ok : ∀ (n : Nat) (x1 : Int32) (x2 : Int32) (Z : mjZt) (v9 : Int32), f251_allActs_h7 n x1 x2 Z = some v9 → pG 251 7 [some (.ref 211), some (.int x1), some (.int x2)] [] (mjTo Z) (fun r M1 => r = some (.int v9) ∧ M1 = mjTo Z)
  | 0, x1, x2, Z, v9, h => by rw [f251_allActs_h7] at h; cases h
  | n + 1, x1, x2, Z, v9, h => by
      rw [f251_allActs_h7] at h
      refine pG_many 2 (pc1 := 9) (L1 := [some (.ref 211), some (.int x1), some (.int x2)]) (st1 := [.ref 211, .int x2]) (M1 := mjTo Z) rfl ?_
      refine pG_getI (ci := 12) (f := 39) rfl rfl (Or.inl rfl) (by rfl) ?_
      by_cases hc101 : mjCmp .ge x2 (Z.1 211 39) = true
      · rw [if_pos hc101] at h
        refine pG_cmt (t := 29) rfl rfl hc101 ?_
        refine pG_many 1 (pc1 := 30) (L1 := [some (.ref 211), some (.int x1), some (.int x2)]) (st1 := [.int x1]) (M1 := mjTo Z) rfl ?_
        simp only [Option.some.injEq] at h
        subst h
        exact pG_ret (r := some (.int x1)) rfl ⟨rfl, rfl⟩
      · rw [if_neg hc101] at h
        refine pG_cmf (t := 29) rfl rfl hc101 ?_
        refine pG_many 3 (pc1 := 18) (L1 := [some (.ref 211), some (.int x1), some (.int x2)]) (st1 := [.int x2, .ref 211, .int x1]) (M1 := mjTo Z) rfl ?_
        cases hq102 : f250_boxesOf x2 Z with
        | none => rw [hq102] at h; cases h
        | some v103 =>
          rw [hq102, mjBp_some] at h
          refine pG_callV (k2 := 250) (As := [.ref 211, .int x2]) (rest := [.int x1]) rfl rfl rfl rfl rfl (by rfl) (by decide) (f250_boxesOf_ok hq102) ?_
          rintro r9 M9 ⟨rfl, rfl⟩
          show pG 251 21 [some (.ref 211), some (.int x1), some (.int x2)] [.int v103, .int x1] (mjTo Z) _
          refine pG_many 4 (pc1 := 7) (L1 := [some (.ref 211), some (.int (x1 + v103)), some (.int (x2 + 1))]) (st1 := []) (M1 := mjTo Z) rfl ?_
          exact f251_allActs_h7_ok n (x1 + v103) (x2 + 1) Z v9 h
def f251_allActs  (Z : mjZt) : Option Int32 :=
  f251_allActs_h7 mjF (Z.1 211 40) 0 Z
set_option maxRecDepth 4000 in
theorem f251_allActs_ok  {Z : mjZt} {v9 : Int32} (h : f251_allActs  Z = some v9) : pG 251 0 (mjEnt [.ref 211] (mjML 251)) [] (mjTo Z) (fun r M1 => r = some (.int v9) ∧ M1 = mjTo Z) := by
  unfold f251_allActs at h
  show pG 251 0 [some (.ref 211), none, none] [] (mjTo Z) _
  refine pG_many 1 (pc1 := 1) (L1 := [some (.ref 211), none, none]) (st1 := [.ref 211]) (M1 := mjTo Z) rfl ?_
  refine pG_getI (ci := 12) (f := 40) rfl rfl (Or.inl rfl) (by rfl) ?_
  refine pG_many 3 (pc1 := 7) (L1 := [some (.ref 211), some (.int (Z.1 211 40)), some (.int 0)]) (st1 := []) (M1 := mjTo Z) rfl ?_
  exact f251_allActs_h7_ok mjF (Z.1 211 40) 0 Z v9 h
def f252_about (p0 : Int32) (Z : mjZt) : Option Int32 :=
  mjBp (f195_isIn (Int32.toInt64 p0) 0 4 Z) fun v102 =>
  if mjCmp .eq v102 0 = true then
    if (p0).toInt < 5 ∨ 12 < (p0).toInt then
      some ((-1))
    else if ((p0).toInt - 5).toNat = 0 then
      some (Z.1 211 39)
    else if ((p0).toInt - 5).toNat = 1 then
      mjBp (f251_allActs  Z) fun v109 =>
      some v109
    else if ((p0).toInt - 5).toNat = 2 then
      some (Z.1 211 40)
    else if ((p0).toInt - 5).toNat = 3 then
      some (Z.1 211 41)
    else if ((p0).toInt - 5).toNat = 4 then
      some (Z.1 211 42)
    else if ((p0).toInt - 5).toNat = 5 then
      some (Z.1 211 43)
    else if ((p0).toInt - 5).toNat = 6 then
      some (Z.1 211 56)
    else if ((p0).toInt - 5).toNat = 7 then
      some (Z.1 211 1)
    else none
  else
    if mjIn p0 5 = true then
    some (Z.1 229 (mjIx p0))
    else none
set_option maxRecDepth 4000 in
theorem f252_about_ok {p0 : Int32} {Z : mjZt} {v9 : Int32} (h : f252_about p0 Z = some v9) : pG 252 0 (mjEnt [.ref 211, .int p0] (mjML 252)) [] (mjTo Z) (fun r M1 => r = some (.int v9) ∧ M1 = mjTo Z) := by
  unfold f252_about at h
  show pG 252 0 [some (.ref 211), some (.int p0)] [] (mjTo Z) _
  refine pG_many 4 (pc1 := 6) (L1 := [some (.ref 211), some (.int p0)]) (st1 := [.long 4, .long 0, .long (Int32.toInt64 p0)]) (M1 := mjTo Z) rfl ?_
  cases hq101 : f195_isIn (Int32.toInt64 p0) 0 4 Z with
  | none => rw [hq101] at h; cases h
  | some v102 =>
    rw [hq101, mjBp_some] at h
    refine pG_call (k2 := 195) (As := [.long (Int32.toInt64 p0), .long 0, .long 4]) (rest := []) rfl (by decide) (f195_isIn_ok hq101) ?_
    rintro r9 M9 ⟨rfl, rfl⟩
    show pG 252 9 [some (.ref 211), some (.int p0)] [.int v102] (mjTo Z) _
    by_cases hc104 : mjCmp .eq v102 0 = true
    · rw [if_pos hc104] at h
      refine pG_ift (t := 19) rfl rfl hc104 ?_
      refine pG_many 1 (pc1 := 20) (L1 := [some (.ref 211), some (.int p0)]) (st1 := [.int p0]) (M1 := mjTo Z) rfl ?_
      by_cases hs105 : (p0).toInt < 5 ∨ 12 < (p0).toInt
      · rw [if_pos hs105] at h
        refine pG_tso (t := 108) rfl hs105 rfl ?_
        refine pG_many 1 (pc1 := 109) (L1 := [some (.ref 211), some (.int p0)]) (st1 := [.int ((-1))]) (M1 := mjTo Z) rfl ?_
        simp only [Option.some.injEq] at h
        subst h
        exact pG_ret (r := some (.int ((-1)))) rfl ⟨rfl, rfl⟩
      rw [if_neg hs105] at h
      by_cases hs106 : ((p0).toInt - 5).toNat = 0
      · rw [if_pos hs106] at h
        refine pG_tsi (t := 68) (j := 0) (o := 48) rfl hs105 hs106 rfl rfl ?_
        refine pG_many 1 (pc1 := 69) (L1 := [some (.ref 211), some (.int p0)]) (st1 := [.ref 211]) (M1 := mjTo Z) rfl ?_
        refine pG_getI (ci := 12) (f := 39) rfl rfl (Or.inl rfl) (by rfl) ?_
        simp only [Option.some.injEq] at h
        subst h
        exact pG_ret (r := some (.int (Z.1 211 39))) rfl ⟨rfl, rfl⟩
      rw [if_neg hs106] at h
      by_cases hs107 : ((p0).toInt - 5).toNat = 1
      · rw [if_pos hs107] at h
        refine pG_tsi (t := 73) (j := 1) (o := 53) rfl hs105 hs107 rfl rfl ?_
        refine pG_many 1 (pc1 := 74) (L1 := [some (.ref 211), some (.int p0)]) (st1 := [.ref 211]) (M1 := mjTo Z) rfl ?_
        cases hq108 : f251_allActs  Z with
        | none => rw [hq108] at h; cases h
        | some v109 =>
          rw [hq108, mjBp_some] at h
          refine pG_callV (k2 := 251) (As := [.ref 211]) (rest := []) rfl rfl rfl rfl rfl (by rfl) (by decide) (f251_allActs_ok hq108) ?_
          rintro r9 M9 ⟨rfl, rfl⟩
          show pG 252 77 [some (.ref 211), some (.int p0)] [.int v109] (mjTo Z) _
          simp only [Option.some.injEq] at h
          subst h
          exact pG_ret (r := some (.int v109)) rfl ⟨rfl, rfl⟩
      rw [if_neg hs107] at h
      by_cases hs111 : ((p0).toInt - 5).toNat = 2
      · rw [if_pos hs111] at h
        refine pG_tsi (t := 78) (j := 2) (o := 58) rfl hs105 hs111 rfl rfl ?_
        refine pG_many 1 (pc1 := 79) (L1 := [some (.ref 211), some (.int p0)]) (st1 := [.ref 211]) (M1 := mjTo Z) rfl ?_
        refine pG_getI (ci := 12) (f := 40) rfl rfl (Or.inl rfl) (by rfl) ?_
        simp only [Option.some.injEq] at h
        subst h
        exact pG_ret (r := some (.int (Z.1 211 40))) rfl ⟨rfl, rfl⟩
      rw [if_neg hs111] at h
      by_cases hs112 : ((p0).toInt - 5).toNat = 3
      · rw [if_pos hs112] at h
        refine pG_tsi (t := 83) (j := 3) (o := 63) rfl hs105 hs112 rfl rfl ?_
        refine pG_many 1 (pc1 := 84) (L1 := [some (.ref 211), some (.int p0)]) (st1 := [.ref 211]) (M1 := mjTo Z) rfl ?_
        refine pG_getI (ci := 12) (f := 41) rfl rfl (Or.inl rfl) (by rfl) ?_
        simp only [Option.some.injEq] at h
        subst h
        exact pG_ret (r := some (.int (Z.1 211 41))) rfl ⟨rfl, rfl⟩
      rw [if_neg hs112] at h
      by_cases hs113 : ((p0).toInt - 5).toNat = 4
      · rw [if_pos hs113] at h
        refine pG_tsi (t := 88) (j := 4) (o := 68) rfl hs105 hs113 rfl rfl ?_
        refine pG_many 1 (pc1 := 89) (L1 := [some (.ref 211), some (.int p0)]) (st1 := [.ref 211]) (M1 := mjTo Z) rfl ?_
        refine pG_getI (ci := 12) (f := 42) rfl rfl (Or.inl rfl) (by rfl) ?_
        simp only [Option.some.injEq] at h
        subst h
        exact pG_ret (r := some (.int (Z.1 211 42))) rfl ⟨rfl, rfl⟩
      rw [if_neg hs113] at h
      by_cases hs114 : ((p0).toInt - 5).toNat = 5
      · rw [if_pos hs114] at h
        refine pG_tsi (t := 93) (j := 5) (o := 73) rfl hs105 hs114 rfl rfl ?_
        refine pG_many 1 (pc1 := 94) (L1 := [some (.ref 211), some (.int p0)]) (st1 := [.ref 211]) (M1 := mjTo Z) rfl ?_
        refine pG_getI (ci := 12) (f := 43) rfl rfl (Or.inl rfl) (by rfl) ?_
        simp only [Option.some.injEq] at h
        subst h
        exact pG_ret (r := some (.int (Z.1 211 43))) rfl ⟨rfl, rfl⟩
      rw [if_neg hs114] at h
      by_cases hs115 : ((p0).toInt - 5).toNat = 6
      · rw [if_pos hs115] at h
        refine pG_tsi (t := 98) (j := 6) (o := 78) rfl hs105 hs115 rfl rfl ?_
        refine pG_many 1 (pc1 := 99) (L1 := [some (.ref 211), some (.int p0)]) (st1 := [.ref 211]) (M1 := mjTo Z) rfl ?_
        refine pG_getI (ci := 12) (f := 56) rfl rfl (Or.inl rfl) (by rfl) ?_
        simp only [Option.some.injEq] at h
        subst h
        exact pG_ret (r := some (.int (Z.1 211 56))) rfl ⟨rfl, rfl⟩
      rw [if_neg hs115] at h
      by_cases hs116 : ((p0).toInt - 5).toNat = 7
      · rw [if_pos hs116] at h
        refine pG_tsi (t := 103) (j := 7) (o := 83) rfl hs105 hs116 rfl rfl ?_
        refine pG_many 1 (pc1 := 104) (L1 := [some (.ref 211), some (.int p0)]) (st1 := [.ref 211]) (M1 := mjTo Z) rfl ?_
        refine pG_getI (ci := 12) (f := 1) rfl rfl (Or.inl rfl) (by rfl) ?_
        simp only [Option.some.injEq] at h
        subst h
        exact pG_ret (r := some (.int (Z.1 211 1))) rfl ⟨rfl, rfl⟩
      rw [if_neg hs116] at h
      cases h
    · rw [if_neg hc104] at h
      refine pG_iff (t := 19) rfl rfl hc104 ?_
      refine pG_many 1 (pc1 := 13) (L1 := [some (.ref 211), some (.int p0)]) (st1 := [.ref 211]) (M1 := mjTo Z) rfl ?_
      refine pG_getR (ci := 12) (f := 44) (b := 229) rfl rfl rfl (by rfl) rfl ?_
      refine pG_many 1 (pc1 := 17) (L1 := [some (.ref 211), some (.int p0)]) (st1 := [.int p0, .ref 229]) (M1 := mjTo Z) rfl ?_
      have hk117 : mjIn p0 5 = true := by
        by_cases q9 : mjIn p0 5 = true
        · exact q9
        · rw [if_neg q9] at h; cases h
      rw [if_pos hk117] at h
      refine pG_ial rfl (by rfl) hk117 ?_
      simp only [Option.some.injEq] at h
      subst h
      exact pG_ret (r := some (.int (Z.1 229 (mjIx p0)))) rfl ⟨rfl, rfl⟩
def f253_name_j96 (x3 : Int32) (x5 : Int64) (x7 : Int32) (Z : mjZt) : Option Int32 :=
  if mjCmp .ge x3 x7 = true then
    some 0
  else
    some (((Int64.toInt32 ((x5 >>> (Int32.toInt64 (8 * ((x7 - 1) - x3)) &&& 63)) &&& 255)) - 97) + 1)
set_option maxRecDepth 4000 in
theorem f253_name_j96_ok (x3 : Int32) (x5 : Int64) (x7 : Int32) (d0 d1 d2 d4 d6 : Option Value) (Z : mjZt) (v9 : Int32) (h : f253_name_j96 x3 x5 x7 Z = some v9) : pG 253 96 [d0, d1, d2, some (.int x3), d4, some (.long x5), d6, some (.int x7)] [] (mjTo Z) (fun r M1 => r = some (.int v9) ∧ M1 = mjTo Z) := by
  unfold f253_name_j96 at h
  refine pG_many 2 (pc1 := 99) (L1 := [d0, d1, d2, some (.int x3), d4, some (.long x5), d6, some (.int x7)]) (st1 := [.int x7, .int x3]) (M1 := mjTo Z) rfl ?_
  by_cases hc111 : mjCmp .ge x3 x7 = true
  · rw [if_pos hc111] at h
    refine pG_cmt (t := 127) rfl rfl hc111 ?_
    refine pG_many 1 (pc1 := 128) (L1 := [d0, d1, d2, some (.int x3), d4, some (.long x5), d6, some (.int x7)]) (st1 := [.int 0]) (M1 := mjTo Z) rfl ?_
    simp only [Option.some.injEq] at h
    subst h
    exact pG_ret (r := some (.int 0)) rfl ⟨rfl, rfl⟩
  · rw [if_neg hc111] at h
    refine pG_cmf (t := 127) rfl rfl hc111 ?_
    refine pG_many 17 (pc1 := 128) (L1 := [d0, d1, d2, some (.int x3), d4, some (.long x5), d6, some (.int x7)]) (st1 := [.int (((Int64.toInt32 ((x5 >>> (Int32.toInt64 (8 * ((x7 - 1) - x3)) &&& 63)) &&& 255)) - 97) + 1)]) (M1 := mjTo Z) rfl ?_
    simp only [Option.some.injEq] at h
    subst h
    exact pG_ret (r := some (.int (((Int64.toInt32 ((x5 >>> (Int32.toInt64 (8 * ((x7 - 1) - x3)) &&& 63)) &&& 255)) - 97) + 1))) rfl ⟨rfl, rfl⟩
def f253_name_h70 : Nat → Int32 → Int64 → Int32 → mjZt → Option Int32
  | 0, _, _, _, _ => none
  | n + 1, x3, x5, x7, Z =>
    if mjCmp .ge x7 8 = true then
      f253_name_j96 x3 x5 x7 Z
    else
      if mjCmp .eq (lg_cmp (((x5 : Int64).toUInt64 >>> (((8 * x7) : Int32).toInt64.toUInt64 &&& Int64.toUInt64 63)).toInt64) 0) 0 = true then
        f253_name_j96 x3 x5 x7 Z
      else
        f253_name_h70 n x3 x5 (x7 + 1) Z
set_option maxRecDepth 4000 in
theorem f253_name_h70_ok : ∀ (n : Nat) (x3 : Int32) (x5 : Int64) (x7 : Int32) (d0 d1 d2 d4 d6 : Option Value) (Z : mjZt) (v9 : Int32), f253_name_h70 n x3 x5 x7 Z = some v9 → pG 253 70 [d0, d1, d2, some (.int x3), d4, some (.long x5), d6, some (.int x7)] [] (mjTo Z) (fun r M1 => r = some (.int v9) ∧ M1 = mjTo Z)
  | 0, x3, x5, x7, d0, d1, d2, d4, d6, Z, v9, h => by rw [f253_name_h70] at h; cases h
  | n + 1, x3, x5, x7, d0, d1, d2, d4, d6, Z, v9, h => by
      rw [f253_name_h70] at h
      refine pG_many 2 (pc1 := 74) (L1 := [d0, d1, d2, some (.int x3), d4, some (.long x5), d6, some (.int x7)]) (st1 := [.int 8, .int x7]) (M1 := mjTo Z) rfl ?_
      by_cases hc110 : mjCmp .ge x7 8 = true
      · rw [if_pos hc110] at h
        refine pG_cmt (t := 96) rfl rfl hc110 ?_
        exact f253_name_j96_ok x3 x5 x7 d0 d1 d2 d4 d6 Z v9 h
      · rw [if_neg hc110] at h
        refine pG_cmf (t := 96) rfl rfl hc110 ?_
        refine pG_many 7 (pc1 := 87) (L1 := [d0, d1, d2, some (.int x3), d4, some (.long x5), d6, some (.int x7)]) (st1 := [.int (lg_cmp (((x5 : Int64).toUInt64 >>> (((8 * x7) : Int32).toInt64.toUInt64 &&& Int64.toUInt64 63)).toInt64) 0)]) (M1 := mjTo Z) rfl ?_
        by_cases hc112 : mjCmp .eq (lg_cmp (((x5 : Int64).toUInt64 >>> (((8 * x7) : Int32).toInt64.toUInt64 &&& Int64.toUInt64 63)).toInt64) 0) 0 = true
        · rw [if_pos hc112] at h
          refine pG_ift (t := 96) rfl rfl hc112 ?_
          exact f253_name_j96_ok x3 x5 x7 d0 d1 d2 d4 d6 Z v9 h
        · rw [if_neg hc112] at h
          refine pG_iff (t := 96) rfl rfl hc112 ?_
          refine pG_many 2 (pc1 := 70) (L1 := [d0, d1, d2, some (.int x3), d4, some (.long x5), (mjK1 d6), some (.int (x7 + 1))]) (st1 := []) (M1 := mjTo Z) rfl ?_
          exact f253_name_h70_ok n x3 x5 (x7 + 1) d0 d1 d2 d4 ((mjK1 d6)) Z v9 h
def f253_name_j65 (x3 : Int32) (s0 : Int64) (Z : mjZt) : Option Int32 :=
  f253_name_h70 mjF x3 s0 0 Z
set_option maxRecDepth 4000 in
theorem f253_name_j65_ok (x3 : Int32) (s0 : Int64) (d0 d1 d2 d4 d5 d6 d7 : Option Value) (Z : mjZt) (v9 : Int32) (h : f253_name_j65 x3 s0 Z = some v9) : pG 253 65 [d0, d1, d2, some (.int x3), d4, d5, d6, d7] [.long s0] (mjTo Z) (fun r M1 => r = some (.int v9) ∧ M1 = mjTo Z) := by
  unfold f253_name_j65 at h
  refine pG_many 3 (pc1 := 70) (L1 := [d0, d1, d2, some (.int x3), (mjK1 d4), some (.long s0), none, some (.int 0)]) (st1 := []) (M1 := mjTo Z) rfl ?_
  exact f253_name_h70_ok mjF x3 s0 0 d0 d1 d2 ((mjK1 d4)) none Z v9 h
def f253_name_j24 (x1 : Int32) (x2 : Int32) (x3 : Int32) (s0 : Int32) (Z : mjZt) : Option Int32 :=
  mjBp (f195_isIn (Int32.toInt64 x2) 0 (Int32.toInt64 (s0 - 1)) Z) fun v104 =>
  if mjCmp .eq v104 0 = true then
    some ((-1))
  else
    if mjCmp .ge x3 0 = true then
      if mjCmp .ne x1 0 = true then
        if mjIn x2 8 = true then
        f253_name_j65 x3 (Z.2.1 238 (mjIx x2)) Z
        else none
      else
        if mjIn x2 6 = true then
        f253_name_j65 x3 (Z.2.1 237 (mjIx x2)) Z
        else none
    else
      some ((-1))
set_option maxRecDepth 4000 in
theorem f253_name_j24_ok (x1 : Int32) (x2 : Int32) (x3 : Int32) (s0 : Int32) (d4 d5 d6 d7 : Option Value) (Z : mjZt) (v9 : Int32) (h : f253_name_j24 x1 x2 x3 s0 Z = some v9) : pG 253 24 [some (.ref 211), some (.int x1), some (.int x2), some (.int x3), d4, d5, d6, d7] [.int s0] (mjTo Z) (fun r M1 => r = some (.int v9) ∧ M1 = mjTo Z) := by
  unfold f253_name_j24 at h
  refine pG_many 8 (pc1 := 34) (L1 := [some (.ref 211), some (.int x1), some (.int x2), some (.int x3), some (.int s0), d5, d6, d7]) (st1 := [.long (Int32.toInt64 (s0 - 1)), .long 0, .long (Int32.toInt64 x2)]) (M1 := mjTo Z) rfl ?_
  cases hq103 : f195_isIn (Int32.toInt64 x2) 0 (Int32.toInt64 (s0 - 1)) Z with
  | none => rw [hq103] at h; cases h
  | some v104 =>
    rw [hq103, mjBp_some] at h
    refine pG_call (k2 := 195) (As := [.long (Int32.toInt64 x2), .long 0, .long (Int32.toInt64 (s0 - 1))]) (rest := []) rfl (by decide) (f195_isIn_ok hq103) ?_
    rintro r9 M9 ⟨rfl, rfl⟩
    show pG 253 37 [some (.ref 211), some (.int x1), some (.int x2), some (.int x3), some (.int s0), d5, d6, d7] [.int v104] (mjTo Z) _
    by_cases hc106 : mjCmp .eq v104 0 = true
    · rw [if_pos hc106] at h
      refine pG_ift (t := 44) rfl rfl hc106 ?_
      refine pG_many 1 (pc1 := 45) (L1 := [some (.ref 211), some (.int x1), some (.int x2), some (.int x3), some (.int s0), d5, d6, d7]) (st1 := [.int ((-1))]) (M1 := mjTo Z) rfl ?_
      simp only [Option.some.injEq] at h
      subst h
      exact pG_ret (r := some (.int ((-1)))) rfl ⟨rfl, rfl⟩
    · rw [if_neg hc106] at h
      refine pG_iff (t := 44) rfl rfl hc106 ?_
      refine pG_many 1 (pc1 := 41) (L1 := [some (.ref 211), some (.int x1), some (.int x2), some (.int x3), some (.int s0), d5, d6, d7]) (st1 := [.int x3]) (M1 := mjTo Z) rfl ?_
      by_cases hc107 : mjCmp .ge x3 0 = true
      · rw [if_pos hc107] at h
        refine pG_ift (t := 46) rfl rfl hc107 ?_
        refine pG_many 1 (pc1 := 47) (L1 := [some (.ref 211), some (.int x1), some (.int x2), some (.int x3), some (.int s0), d5, d6, d7]) (st1 := [.int x1]) (M1 := mjTo Z) rfl ?_
        by_cases hc108 : mjCmp .ne x1 0 = true
        · rw [if_pos hc108] at h
          refine pG_ift (t := 59) rfl rfl hc108 ?_
          refine pG_many 1 (pc1 := 60) (L1 := [some (.ref 211), some (.int x1), some (.int x2), some (.int x3), some (.int s0), d5, d6, d7]) (st1 := [.ref 211]) (M1 := mjTo Z) rfl ?_
          refine pG_getR (ci := 12) (f := 53) (b := 238) rfl rfl rfl (by rfl) rfl ?_
          refine pG_many 1 (pc1 := 64) (L1 := [some (.ref 211), some (.int x1), some (.int x2), some (.int x3), some (.int s0), d5, d6, d7]) (st1 := [.int x2, .ref 238]) (M1 := mjTo Z) rfl ?_
          have hk109 : mjIn x2 8 = true := by
            by_cases q9 : mjIn x2 8 = true
            · exact q9
            · rw [if_neg q9] at h; cases h
          rw [if_pos hk109] at h
          refine pG_lal rfl (by rfl) hk109 ?_
          exact f253_name_j65_ok x3 (Z.2.1 238 (mjIx x2)) (some (.ref 211)) (some (.int x1)) (some (.int x2)) (some (.int s0)) d5 d6 d7 Z v9 h
        · rw [if_neg hc108] at h
          refine pG_iff (t := 59) rfl rfl hc108 ?_
          refine pG_many 1 (pc1 := 51) (L1 := [some (.ref 211), some (.int x1), some (.int x2), some (.int x3), some (.int s0), d5, d6, d7]) (st1 := [.ref 211]) (M1 := mjTo Z) rfl ?_
          refine pG_getR (ci := 12) (f := 52) (b := 237) rfl rfl rfl (by rfl) rfl ?_
          refine pG_many 1 (pc1 := 55) (L1 := [some (.ref 211), some (.int x1), some (.int x2), some (.int x3), some (.int s0), d5, d6, d7]) (st1 := [.int x2, .ref 237]) (M1 := mjTo Z) rfl ?_
          have hk113 : mjIn x2 6 = true := by
            by_cases q9 : mjIn x2 6 = true
            · exact q9
            · rw [if_neg q9] at h; cases h
          rw [if_pos hk113] at h
          refine pG_lal rfl (by rfl) hk113 ?_
          refine pG_many 1 (pc1 := 65) (L1 := [some (.ref 211), some (.int x1), some (.int x2), some (.int x3), some (.int s0), d5, d6, d7]) (st1 := [.long (Z.2.1 237 (mjIx x2))]) (M1 := mjTo Z) rfl ?_
          exact f253_name_j65_ok x3 (Z.2.1 237 (mjIx x2)) (some (.ref 211)) (some (.int x1)) (some (.int x2)) (some (.int s0)) d5 d6 d7 Z v9 h
      · rw [if_neg hc107] at h
        refine pG_iff (t := 46) rfl rfl hc107 ?_
        refine pG_many 1 (pc1 := 45) (L1 := [some (.ref 211), some (.int x1), some (.int x2), some (.int x3), some (.int s0), d5, d6, d7]) (st1 := [.int ((-1))]) (M1 := mjTo Z) rfl ?_
        simp only [Option.some.injEq] at h
        subst h
        exact pG_ret (r := some (.int ((-1)))) rfl ⟨rfl, rfl⟩
def f253_name (p0 : Int32) (p1 : Int32) (p2 : Int32) (Z : mjZt) : Option Int32 :=
  if mjCmp .ne p0 0 = true then
    if mjCmp .ne p0 1 = true then
      f253_name_j24 p0 p1 p2 0 Z
    else
      f253_name_j24 p0 p1 p2 (Z.1 211 41) Z
  else
    f253_name_j24 p0 p1 p2 (Z.1 211 39) Z
set_option maxRecDepth 4000 in
theorem f253_name_ok {p0 : Int32} {p1 : Int32} {p2 : Int32} {Z : mjZt} {v9 : Int32} (h : f253_name p0 p1 p2 Z = some v9) : pG 253 0 (mjEnt [.ref 211, .int p0, .int p1, .int p2] (mjML 253)) [] (mjTo Z) (fun r M1 => r = some (.int v9) ∧ M1 = mjTo Z) := by
  unfold f253_name at h
  show pG 253 0 [some (.ref 211), some (.int p0), some (.int p1), some (.int p2), none, none, none, none] [] (mjTo Z) _
  refine pG_many 1 (pc1 := 1) (L1 := [some (.ref 211), some (.int p0), some (.int p1), some (.int p2), none, none, none, none]) (st1 := [.int p0]) (M1 := mjTo Z) rfl ?_
  by_cases hc101 : mjCmp .ne p0 0 = true
  · rw [if_pos hc101] at h
    refine pG_ift (t := 11) rfl rfl hc101 ?_
    refine pG_many 2 (pc1 := 13) (L1 := [some (.ref 211), some (.int p0), some (.int p1), some (.int p2), none, none, none, none]) (st1 := [.int 1, .int p0]) (M1 := mjTo Z) rfl ?_
    by_cases hc102 : mjCmp .ne p0 1 = true
    · rw [if_pos hc102] at h
      refine pG_cmt (t := 23) rfl rfl hc102 ?_
      refine pG_many 1 (pc1 := 24) (L1 := [some (.ref 211), some (.int p0), some (.int p1), some (.int p2), none, none, none, none]) (st1 := [.int 0]) (M1 := mjTo Z) rfl ?_
      exact f253_name_j24_ok p0 p1 p2 0 none none none none Z v9 h
    · rw [if_neg hc102] at h
      refine pG_cmf (t := 23) rfl rfl hc102 ?_
      refine pG_many 1 (pc1 := 17) (L1 := [some (.ref 211), some (.int p0), some (.int p1), some (.int p2), none, none, none, none]) (st1 := [.ref 211]) (M1 := mjTo Z) rfl ?_
      refine pG_getI (ci := 12) (f := 41) rfl rfl (Or.inl rfl) (by rfl) ?_
      refine pG_many 1 (pc1 := 24) (L1 := [some (.ref 211), some (.int p0), some (.int p1), some (.int p2), none, none, none, none]) (st1 := [.int (Z.1 211 41)]) (M1 := mjTo Z) rfl ?_
      exact f253_name_j24_ok p0 p1 p2 (Z.1 211 41) none none none none Z v9 h
  · rw [if_neg hc101] at h
    refine pG_iff (t := 11) rfl rfl hc101 ?_
    refine pG_many 1 (pc1 := 5) (L1 := [some (.ref 211), some (.int p0), some (.int p1), some (.int p2), none, none, none, none]) (st1 := [.ref 211]) (M1 := mjTo Z) rfl ?_
    refine pG_getI (ci := 12) (f := 39) rfl rfl (Or.inl rfl) (by rfl) ?_
    refine pG_many 1 (pc1 := 24) (L1 := [some (.ref 211), some (.int p0), some (.int p1), some (.int p2), none, none, none, none]) (st1 := [.int (Z.1 211 39)]) (M1 := mjTo Z) rfl ?_
    exact f253_name_j24_ok p0 p1 p2 (Z.1 211 39) none none none none Z v9 h
def f254_team (p0 : Int32) (p1 : Int32) (Z : mjZt) : Option Int32 :=
  mjBp (f240_isTeam p0 Z) fun v102 =>
  if mjCmp .eq v102 0 = true then
    some ((-1))
  else
    mjBp (f195_isIn (Int32.toInt64 p1) 0 3 Z) fun v106 =>
    if mjCmp .ne v106 0 = true then
      if mjCmp .ne p1 0 = true then
        if mjCmp .ne p1 1 = true then
          if mjCmp .ne p1 2 = true then
            mjBp (f247_isWhole p0 Z) fun v113 =>
            mjBp (f196_truth v113 Z) fun v116 =>
            some v116
          else
            mjBp (f246_timeOf p0 Z) fun v119 =>
            some v119
        else
          if mjIn p0 6 = true then
          some (Z.1 231 (mjIx p0))
          else none
      else
        if mjIn p0 6 = true then
        some (Z.1 230 (mjIx p0))
        else none
    else
      some ((-1))
set_option maxRecDepth 4000 in
theorem f254_team_ok {p0 : Int32} {p1 : Int32} {Z : mjZt} {v9 : Int32} (h : f254_team p0 p1 Z = some v9) : pG 254 0 (mjEnt [.ref 211, .int p0, .int p1] (mjML 254)) [] (mjTo Z) (fun r M1 => r = some (.int v9) ∧ M1 = mjTo Z) := by
  unfold f254_team at h
  show pG 254 0 [some (.ref 211), some (.int p0), some (.int p1)] [] (mjTo Z) _
  refine pG_many 2 (pc1 := 2) (L1 := [some (.ref 211), some (.int p0), some (.int p1)]) (st1 := [.int p0, .ref 211]) (M1 := mjTo Z) rfl ?_
  cases hq101 : f240_isTeam p0 Z with
  | none => rw [hq101] at h; cases h
  | some v102 =>
    rw [hq101, mjBp_some] at h
    refine pG_callV (k2 := 240) (As := [.ref 211, .int p0]) (rest := []) rfl rfl rfl rfl rfl (by rfl) (by decide) (f240_isTeam_ok hq101) ?_
    rintro r9 M9 ⟨rfl, rfl⟩
    show pG 254 5 [some (.ref 211), some (.int p0), some (.int p1)] [.int v102] (mjTo Z) _
    by_cases hc104 : mjCmp .eq v102 0 = true
    · rw [if_pos hc104] at h
      refine pG_ift (t := 20) rfl rfl hc104 ?_
      refine pG_many 1 (pc1 := 21) (L1 := [some (.ref 211), some (.int p0), some (.int p1)]) (st1 := [.int ((-1))]) (M1 := mjTo Z) rfl ?_
      simp only [Option.some.injEq] at h
      subst h
      exact pG_ret (r := some (.int ((-1)))) rfl ⟨rfl, rfl⟩
    · rw [if_neg hc104] at h
      refine pG_iff (t := 20) rfl rfl hc104 ?_
      refine pG_many 4 (pc1 := 14) (L1 := [some (.ref 211), some (.int p0), some (.int p1)]) (st1 := [.long 3, .long 0, .long (Int32.toInt64 p1)]) (M1 := mjTo Z) rfl ?_
      cases hq105 : f195_isIn (Int32.toInt64 p1) 0 3 Z with
      | none => rw [hq105] at h; cases h
      | some v106 =>
        rw [hq105, mjBp_some] at h
        refine pG_call (k2 := 195) (As := [.long (Int32.toInt64 p1), .long 0, .long 3]) (rest := []) rfl (by decide) (f195_isIn_ok hq105) ?_
        rintro r9 M9 ⟨rfl, rfl⟩
        show pG 254 17 [some (.ref 211), some (.int p0), some (.int p1)] [.int v106] (mjTo Z) _
        by_cases hc108 : mjCmp .ne v106 0 = true
        · rw [if_pos hc108] at h
          refine pG_ift (t := 22) rfl rfl hc108 ?_
          refine pG_many 1 (pc1 := 23) (L1 := [some (.ref 211), some (.int p0), some (.int p1)]) (st1 := [.int p1]) (M1 := mjTo Z) rfl ?_
          by_cases hc109 : mjCmp .ne p1 0 = true
          · rw [if_pos hc109] at h
            refine pG_ift (t := 35) rfl rfl hc109 ?_
            refine pG_many 2 (pc1 := 37) (L1 := [some (.ref 211), some (.int p0), some (.int p1)]) (st1 := [.int 1, .int p1]) (M1 := mjTo Z) rfl ?_
            by_cases hc110 : mjCmp .ne p1 1 = true
            · rw [if_pos hc110] at h
              refine pG_cmt (t := 49) rfl rfl hc110 ?_
              refine pG_many 2 (pc1 := 51) (L1 := [some (.ref 211), some (.int p0), some (.int p1)]) (st1 := [.int 2, .int p1]) (M1 := mjTo Z) rfl ?_
              by_cases hc111 : mjCmp .ne p1 2 = true
              · rw [if_pos hc111] at h
                refine pG_cmt (t := 62) rfl rfl hc111 ?_
                refine pG_many 2 (pc1 := 64) (L1 := [some (.ref 211), some (.int p0), some (.int p1)]) (st1 := [.int p0, .ref 211]) (M1 := mjTo Z) rfl ?_
                cases hq112 : f247_isWhole p0 Z with
                | none => rw [hq112] at h; cases h
                | some v113 =>
                  rw [hq112, mjBp_some] at h
                  refine pG_callV (k2 := 247) (As := [.ref 211, .int p0]) (rest := []) rfl rfl rfl rfl rfl (by rfl) (by decide) (f247_isWhole_ok hq112) ?_
                  rintro r9 M9 ⟨rfl, rfl⟩
                  show pG 254 67 [some (.ref 211), some (.int p0), some (.int p1)] [.int v113] (mjTo Z) _
                  cases hq115 : f196_truth v113 Z with
                  | none => rw [hq115] at h; cases h
                  | some v116 =>
                    rw [hq115, mjBp_some] at h
                    refine pG_call (k2 := 196) (As := [.int v113]) (rest := []) rfl (by decide) (f196_truth_ok hq115) ?_
                    rintro r9 M9 ⟨rfl, rfl⟩
                    show pG 254 70 [some (.ref 211), some (.int p0), some (.int p1)] [.int v116] (mjTo Z) _
                    simp only [Option.some.injEq] at h
                    subst h
                    exact pG_ret (r := some (.int v116)) rfl ⟨rfl, rfl⟩
              · rw [if_neg hc111] at h
                refine pG_cmf (t := 62) rfl rfl hc111 ?_
                refine pG_many 2 (pc1 := 56) (L1 := [some (.ref 211), some (.int p0), some (.int p1)]) (st1 := [.int p0, .ref 211]) (M1 := mjTo Z) rfl ?_
                cases hq118 : f246_timeOf p0 Z with
                | none => rw [hq118] at h; cases h
                | some v119 =>
                  rw [hq118, mjBp_some] at h
                  refine pG_callV (k2 := 246) (As := [.ref 211, .int p0]) (rest := []) rfl rfl rfl rfl rfl (by rfl) (by decide) (f246_timeOf_ok hq118) ?_
                  rintro r9 M9 ⟨rfl, rfl⟩
                  show pG 254 59 [some (.ref 211), some (.int p0), some (.int p1)] [.int v119] (mjTo Z) _
                  refine pG_many 1 (pc1 := 70) (L1 := [some (.ref 211), some (.int p0), some (.int p1)]) (st1 := [.int v119]) (M1 := mjTo Z) rfl ?_
                  simp only [Option.some.injEq] at h
                  subst h
                  exact pG_ret (r := some (.int v119)) rfl ⟨rfl, rfl⟩
            · rw [if_neg hc110] at h
              refine pG_cmf (t := 49) rfl rfl hc110 ?_
              refine pG_many 1 (pc1 := 41) (L1 := [some (.ref 211), some (.int p0), some (.int p1)]) (st1 := [.ref 211]) (M1 := mjTo Z) rfl ?_
              refine pG_getR (ci := 12) (f := 46) (b := 231) rfl rfl rfl (by rfl) rfl ?_
              refine pG_many 1 (pc1 := 45) (L1 := [some (.ref 211), some (.int p0), some (.int p1)]) (st1 := [.int p0, .ref 231]) (M1 := mjTo Z) rfl ?_
              have hk121 : mjIn p0 6 = true := by
                by_cases q9 : mjIn p0 6 = true
                · exact q9
                · rw [if_neg q9] at h; cases h
              rw [if_pos hk121] at h
              refine pG_ial rfl (by rfl) hk121 ?_
              refine pG_many 1 (pc1 := 70) (L1 := [some (.ref 211), some (.int p0), some (.int p1)]) (st1 := [.int (Z.1 231 (mjIx p0))]) (M1 := mjTo Z) rfl ?_
              simp only [Option.some.injEq] at h
              subst h
              exact pG_ret (r := some (.int (Z.1 231 (mjIx p0)))) rfl ⟨rfl, rfl⟩
          · rw [if_neg hc109] at h
            refine pG_iff (t := 35) rfl rfl hc109 ?_
            refine pG_many 1 (pc1 := 27) (L1 := [some (.ref 211), some (.int p0), some (.int p1)]) (st1 := [.ref 211]) (M1 := mjTo Z) rfl ?_
            refine pG_getR (ci := 12) (f := 45) (b := 230) rfl rfl rfl (by rfl) rfl ?_
            refine pG_many 1 (pc1 := 31) (L1 := [some (.ref 211), some (.int p0), some (.int p1)]) (st1 := [.int p0, .ref 230]) (M1 := mjTo Z) rfl ?_
            have hk122 : mjIn p0 6 = true := by
              by_cases q9 : mjIn p0 6 = true
              · exact q9
              · rw [if_neg q9] at h; cases h
            rw [if_pos hk122] at h
            refine pG_ial rfl (by rfl) hk122 ?_
            refine pG_many 1 (pc1 := 70) (L1 := [some (.ref 211), some (.int p0), some (.int p1)]) (st1 := [.int (Z.1 230 (mjIx p0))]) (M1 := mjTo Z) rfl ?_
            simp only [Option.some.injEq] at h
            subst h
            exact pG_ret (r := some (.int (Z.1 230 (mjIx p0)))) rfl ⟨rfl, rfl⟩
        · rw [if_neg hc108] at h
          refine pG_iff (t := 22) rfl rfl hc108 ?_
          refine pG_many 1 (pc1 := 21) (L1 := [some (.ref 211), some (.int p0), some (.int p1)]) (st1 := [.int ((-1))]) (M1 := mjTo Z) rfl ?_
          simp only [Option.some.injEq] at h
          subst h
          exact pG_ret (r := some (.int ((-1)))) rfl ⟨rfl, rfl⟩
def f255_lane_h2 : Nat → Int32 → Int32 → mjZt → Option Int32
  | 0, _, _, _ => none
  | n + 1, x1, x2, Z =>
    if mjCmp .ge x2 (Z.1 211 39) = true then
      some ((-1))
    else
      if mjIn x2 6 = true then
      if mjCmp .ne (Z.1 230 (mjIx x2)) x1 = true then
        f255_lane_h2 n x1 (x2 + 1) Z
      else
        some x2
      else none
set_option maxRecDepth 4000 in
theorem f255_lane_h2_ok : ∀ (n : Nat) (x1 : Int32) (x2 : Int32) (Z : mjZt) (v9 : Int32), f255_lane_h2 n x1 x2 Z = some v9 → pG 255 2 [some (.ref 211), some (.int x1), some (.int x2)] [] (mjTo Z) (fun r M1 => r = some (.int v9) ∧ M1 = mjTo Z)
  | 0, x1, x2, Z, v9, h => by rw [f255_lane_h2] at h; cases h
  | n + 1, x1, x2, Z, v9, h => by
      rw [f255_lane_h2] at h
      refine pG_many 2 (pc1 := 4) (L1 := [some (.ref 211), some (.int x1), some (.int x2)]) (st1 := [.ref 211, .int x2]) (M1 := mjTo Z) rfl ?_
      refine pG_getI (ci := 12) (f := 39) rfl rfl (Or.inl rfl) (by rfl) ?_
      by_cases hc101 : mjCmp .ge x2 (Z.1 211 39) = true
      · rw [if_pos hc101] at h
        refine pG_cmt (t := 28) rfl rfl hc101 ?_
        refine pG_many 1 (pc1 := 29) (L1 := [some (.ref 211), some (.int x1), some (.int x2)]) (st1 := [.int ((-1))]) (M1 := mjTo Z) rfl ?_
        simp only [Option.some.injEq] at h
        subst h
        exact pG_ret (r := some (.int ((-1)))) rfl ⟨rfl, rfl⟩
      · rw [if_neg hc101] at h
        refine pG_cmf (t := 28) rfl rfl hc101 ?_
        refine pG_many 1 (pc1 := 11) (L1 := [some (.ref 211), some (.int x1), some (.int x2)]) (st1 := [.ref 211]) (M1 := mjTo Z) rfl ?_
        refine pG_getR (ci := 12) (f := 45) (b := 230) rfl rfl rfl (by rfl) rfl ?_
        refine pG_many 1 (pc1 := 15) (L1 := [some (.ref 211), some (.int x1), some (.int x2)]) (st1 := [.int x2, .ref 230]) (M1 := mjTo Z) rfl ?_
        have hk102 : mjIn x2 6 = true := by
          by_cases q9 : mjIn x2 6 = true
          · exact q9
          · rw [if_neg q9] at h; cases h
        rw [if_pos hk102] at h
        refine pG_ial rfl (by rfl) hk102 ?_
        refine pG_many 1 (pc1 := 17) (L1 := [some (.ref 211), some (.int x1), some (.int x2)]) (st1 := [.int x1, .int (Z.1 230 (mjIx x2))]) (M1 := mjTo Z) rfl ?_
        by_cases hc103 : mjCmp .ne (Z.1 230 (mjIx x2)) x1 = true
        · rw [if_pos hc103] at h
          refine pG_cmt (t := 22) rfl rfl hc103 ?_
          refine pG_many 2 (pc1 := 2) (L1 := [some (.ref 211), some (.int x1), some (.int (x2 + 1))]) (st1 := []) (M1 := mjTo Z) rfl ?_
          exact f255_lane_h2_ok n x1 (x2 + 1) Z v9 h
        · rw [if_neg hc103] at h
          refine pG_cmf (t := 22) rfl rfl hc103 ?_
          refine pG_many 1 (pc1 := 21) (L1 := [some (.ref 211), some (.int x1), some (.int x2)]) (st1 := [.int x2]) (M1 := mjTo Z) rfl ?_
          simp only [Option.some.injEq] at h
          subst h
          exact pG_ret (r := some (.int x2)) rfl ⟨rfl, rfl⟩
def f255_lane (p0 : Int32) (Z : mjZt) : Option Int32 :=
  f255_lane_h2 mjF p0 0 Z
set_option maxRecDepth 4000 in
theorem f255_lane_ok {p0 : Int32} {Z : mjZt} {v9 : Int32} (h : f255_lane p0 Z = some v9) : pG 255 0 (mjEnt [.ref 211, .int p0] (mjML 255)) [] (mjTo Z) (fun r M1 => r = some (.int v9) ∧ M1 = mjTo Z) := by
  unfold f255_lane at h
  show pG 255 0 [some (.ref 211), some (.int p0), none] [] (mjTo Z) _
  refine pG_many 2 (pc1 := 2) (L1 := [some (.ref 211), some (.int p0), some (.int 0)]) (st1 := []) (M1 := mjTo Z) rfl ?_
  exact f255_lane_h2_ok mjF p0 0 Z v9 h
def f256_place (p0 : Int32) (p1 : Int32) (Z : mjZt) : Option Int32 :=
  mjBp (f240_isTeam p0 Z) fun v102 =>
  if mjCmp .eq v102 0 = true then
    some ((-1))
  else
    mjBp (f241_isTenth p1 Z) fun v106 =>
    if mjCmp .eq v106 0 = true then
      some ((-1))
    else
      mjBp (f249_placeOf p0 p1 Z) fun v110 =>
      some v110
set_option maxRecDepth 4000 in
theorem f256_place_ok {p0 : Int32} {p1 : Int32} {Z : mjZt} {v9 : Int32} (h : f256_place p0 p1 Z = some v9) : pG 256 0 (mjEnt [.ref 211, .int p0, .int p1] (mjML 256)) [] (mjTo Z) (fun r M1 => r = some (.int v9) ∧ M1 = mjTo Z) := by
  unfold f256_place at h
  show pG 256 0 [some (.ref 211), some (.int p0), some (.int p1)] [] (mjTo Z) _
  refine pG_many 2 (pc1 := 2) (L1 := [some (.ref 211), some (.int p0), some (.int p1)]) (st1 := [.int p0, .ref 211]) (M1 := mjTo Z) rfl ?_
  cases hq101 : f240_isTeam p0 Z with
  | none => rw [hq101] at h; cases h
  | some v102 =>
    rw [hq101, mjBp_some] at h
    refine pG_callV (k2 := 240) (As := [.ref 211, .int p0]) (rest := []) rfl rfl rfl rfl rfl (by rfl) (by decide) (f240_isTeam_ok hq101) ?_
    rintro r9 M9 ⟨rfl, rfl⟩
    show pG 256 5 [some (.ref 211), some (.int p0), some (.int p1)] [.int v102] (mjTo Z) _
    by_cases hc104 : mjCmp .eq v102 0 = true
    · rw [if_pos hc104] at h
      refine pG_ift (t := 25) rfl rfl hc104 ?_
      refine pG_many 1 (pc1 := 26) (L1 := [some (.ref 211), some (.int p0), some (.int p1)]) (st1 := [.int ((-1))]) (M1 := mjTo Z) rfl ?_
      simp only [Option.some.injEq] at h
      subst h
      exact pG_ret (r := some (.int ((-1)))) rfl ⟨rfl, rfl⟩
    · rw [if_neg hc104] at h
      refine pG_iff (t := 25) rfl rfl hc104 ?_
      refine pG_many 2 (pc1 := 10) (L1 := [some (.ref 211), some (.int p0), some (.int p1)]) (st1 := [.int p1, .ref 211]) (M1 := mjTo Z) rfl ?_
      cases hq105 : f241_isTenth p1 Z with
      | none => rw [hq105] at h; cases h
      | some v106 =>
        rw [hq105, mjBp_some] at h
        refine pG_callV (k2 := 241) (As := [.ref 211, .int p1]) (rest := []) rfl rfl rfl rfl rfl (by rfl) (by decide) (f241_isTenth_ok hq105) ?_
        rintro r9 M9 ⟨rfl, rfl⟩
        show pG 256 13 [some (.ref 211), some (.int p0), some (.int p1)] [.int v106] (mjTo Z) _
        by_cases hc108 : mjCmp .eq v106 0 = true
        · rw [if_pos hc108] at h
          refine pG_ift (t := 25) rfl rfl hc108 ?_
          refine pG_many 1 (pc1 := 26) (L1 := [some (.ref 211), some (.int p0), some (.int p1)]) (st1 := [.int ((-1))]) (M1 := mjTo Z) rfl ?_
          simp only [Option.some.injEq] at h
          subst h
          exact pG_ret (r := some (.int ((-1)))) rfl ⟨rfl, rfl⟩
        · rw [if_neg hc108] at h
          refine pG_iff (t := 25) rfl rfl hc108 ?_
          refine pG_many 3 (pc1 := 19) (L1 := [some (.ref 211), some (.int p0), some (.int p1)]) (st1 := [.int p1, .int p0, .ref 211]) (M1 := mjTo Z) rfl ?_
          cases hq109 : f249_placeOf p0 p1 Z with
          | none => rw [hq109] at h; cases h
          | some v110 =>
            rw [hq109, mjBp_some] at h
            refine pG_callV (k2 := 249) (As := [.ref 211, .int p0, .int p1]) (rest := []) rfl rfl rfl rfl rfl (by rfl) (by decide) (f249_placeOf_ok hq109) ?_
            rintro r9 M9 ⟨rfl, rfl⟩
            show pG 256 22 [some (.ref 211), some (.int p0), some (.int p1)] [.int v110] (mjTo Z) _
            refine pG_many 1 (pc1 := 26) (L1 := [some (.ref 211), some (.int p0), some (.int p1)]) (st1 := [.int v110]) (M1 := mjTo Z) rfl ?_
            simp only [Option.some.injEq] at h
            subst h
            exact pG_ret (r := some (.int v110)) rfl ⟨rfl, rfl⟩
def f257_comesTo_h2 : Nat → Int32 → Int32 → Int32 → mjZt → Option Int32
  | 0, _, _, _, _ => none
  | n + 1, x1, x2, x3, Z =>
    if mjCmp .gt x3 9999 = true then
      some ((-2))
    else
      mjBp (f249_placeOf x1 x3 Z) fun v103 =>
      if mjCmp .lt v103 x2 = true then
        f257_comesTo_h2 n x1 x2 (x3 + 1) Z
      else
        some x3
set_option maxRecDepth 4000 in
theorem f257_comesTo_h2_ok : ∀ (n : Nat) (x1 : Int32) (x2 : Int32) (x3 : Int32) (Z : mjZt) (v9 : Int32), f257_comesTo_h2 n x1 x2 x3 Z = some v9 → pG 257 2 [some (.ref 211), some (.int x1), some (.int x2), some (.int x3)] [] (mjTo Z) (fun r M1 => r = some (.int v9) ∧ M1 = mjTo Z)
  | 0, x1, x2, x3, Z, v9, h => by rw [f257_comesTo_h2] at h; cases h
  | n + 1, x1, x2, x3, Z, v9, h => by
      rw [f257_comesTo_h2] at h
      refine pG_many 2 (pc1 := 6) (L1 := [some (.ref 211), some (.int x1), some (.int x2), some (.int x3)]) (st1 := [.int 9999, .int x3]) (M1 := mjTo Z) rfl ?_
      by_cases hc101 : mjCmp .gt x3 9999 = true
      · rw [if_pos hc101] at h
        refine pG_cmt (t := 27) rfl rfl hc101 ?_
        refine pG_many 1 (pc1 := 29) (L1 := [some (.ref 211), some (.int x1), some (.int x2), some (.int x3)]) (st1 := [.int ((-2))]) (M1 := mjTo Z) rfl ?_
        simp only [Option.some.injEq] at h
        subst h
        exact pG_ret (r := some (.int ((-2)))) rfl ⟨rfl, rfl⟩
      · rw [if_neg hc101] at h
        refine pG_cmf (t := 27) rfl rfl hc101 ?_
        refine pG_many 3 (pc1 := 12) (L1 := [some (.ref 211), some (.int x1), some (.int x2), some (.int x3)]) (st1 := [.int x3, .int x1, .ref 211]) (M1 := mjTo Z) rfl ?_
        cases hq102 : f249_placeOf x1 x3 Z with
        | none => rw [hq102] at h; cases h
        | some v103 =>
          rw [hq102, mjBp_some] at h
          refine pG_callV (k2 := 249) (As := [.ref 211, .int x1, .int x3]) (rest := []) rfl rfl rfl rfl rfl (by rfl) (by decide) (f249_placeOf_ok hq102) ?_
          rintro r9 M9 ⟨rfl, rfl⟩
          show pG 257 15 [some (.ref 211), some (.int x1), some (.int x2), some (.int x3)] [.int v103] (mjTo Z) _
          refine pG_many 1 (pc1 := 16) (L1 := [some (.ref 211), some (.int x1), some (.int x2), some (.int x3)]) (st1 := [.int x2, .int v103]) (M1 := mjTo Z) rfl ?_
          by_cases hc105 : mjCmp .lt v103 x2 = true
          · rw [if_pos hc105] at h
            refine pG_cmt (t := 21) rfl rfl hc105 ?_
            refine pG_many 2 (pc1 := 2) (L1 := [some (.ref 211), some (.int x1), some (.int x2), some (.int (x3 + 1))]) (st1 := []) (M1 := mjTo Z) rfl ?_
            exact f257_comesTo_h2_ok n x1 x2 (x3 + 1) Z v9 h
          · rw [if_neg hc105] at h
            refine pG_cmf (t := 21) rfl rfl hc105 ?_
            refine pG_many 1 (pc1 := 20) (L1 := [some (.ref 211), some (.int x1), some (.int x2), some (.int x3)]) (st1 := [.int x3]) (M1 := mjTo Z) rfl ?_
            simp only [Option.some.injEq] at h
            subst h
            exact pG_ret (r := some (.int x3)) rfl ⟨rfl, rfl⟩
def f257_comesTo (p0 : Int32) (p1 : Int32) (Z : mjZt) : Option Int32 :=
  f257_comesTo_h2 mjF p0 p1 0 Z
set_option maxRecDepth 4000 in
theorem f257_comesTo_ok {p0 : Int32} {p1 : Int32} {Z : mjZt} {v9 : Int32} (h : f257_comesTo p0 p1 Z = some v9) : pG 257 0 (mjEnt [.ref 211, .int p0, .int p1] (mjML 257)) [] (mjTo Z) (fun r M1 => r = some (.int v9) ∧ M1 = mjTo Z) := by
  unfold f257_comesTo at h
  show pG 257 0 [some (.ref 211), some (.int p0), some (.int p1), none] [] (mjTo Z) _
  refine pG_many 2 (pc1 := 2) (L1 := [some (.ref 211), some (.int p0), some (.int p1), some (.int 0)]) (st1 := []) (M1 := mjTo Z) rfl ?_
  exact f257_comesTo_h2_ok mjF p0 p1 0 Z v9 h
def f258_comes (p0 : Int32) (p1 : Int32) (Z : mjZt) : Option Int32 :=
  mjBp (f240_isTeam p0 Z) fun v102 =>
  if mjCmp .eq v102 0 = true then
    some ((-1))
  else
    if mjCmp .lt p1 0 = true then
      some ((-1))
    else
      mjBp (f257_comesTo p0 p1 Z) fun v107 =>
      some v107
set_option maxRecDepth 4000 in
theorem f258_comes_ok {p0 : Int32} {p1 : Int32} {Z : mjZt} {v9 : Int32} (h : f258_comes p0 p1 Z = some v9) : pG 258 0 (mjEnt [.ref 211, .int p0, .int p1] (mjML 258)) [] (mjTo Z) (fun r M1 => r = some (.int v9) ∧ M1 = mjTo Z) := by
  unfold f258_comes at h
  show pG 258 0 [some (.ref 211), some (.int p0), some (.int p1)] [] (mjTo Z) _
  refine pG_many 2 (pc1 := 2) (L1 := [some (.ref 211), some (.int p0), some (.int p1)]) (st1 := [.int p0, .ref 211]) (M1 := mjTo Z) rfl ?_
  cases hq101 : f240_isTeam p0 Z with
  | none => rw [hq101] at h; cases h
  | some v102 =>
    rw [hq101, mjBp_some] at h
    refine pG_callV (k2 := 240) (As := [.ref 211, .int p0]) (rest := []) rfl rfl rfl rfl rfl (by rfl) (by decide) (f240_isTeam_ok hq101) ?_
    rintro r9 M9 ⟨rfl, rfl⟩
    show pG 258 5 [some (.ref 211), some (.int p0), some (.int p1)] [.int v102] (mjTo Z) _
    by_cases hc104 : mjCmp .eq v102 0 = true
    · rw [if_pos hc104] at h
      refine pG_ift (t := 21) rfl rfl hc104 ?_
      refine pG_many 1 (pc1 := 22) (L1 := [some (.ref 211), some (.int p0), some (.int p1)]) (st1 := [.int ((-1))]) (M1 := mjTo Z) rfl ?_
      simp only [Option.some.injEq] at h
      subst h
      exact pG_ret (r := some (.int ((-1)))) rfl ⟨rfl, rfl⟩
    · rw [if_neg hc104] at h
      refine pG_iff (t := 21) rfl rfl hc104 ?_
      refine pG_many 1 (pc1 := 9) (L1 := [some (.ref 211), some (.int p0), some (.int p1)]) (st1 := [.int p1]) (M1 := mjTo Z) rfl ?_
      by_cases hc105 : mjCmp .lt p1 0 = true
      · rw [if_pos hc105] at h
        refine pG_ift (t := 21) rfl rfl hc105 ?_
        refine pG_many 1 (pc1 := 22) (L1 := [some (.ref 211), some (.int p0), some (.int p1)]) (st1 := [.int ((-1))]) (M1 := mjTo Z) rfl ?_
        simp only [Option.some.injEq] at h
        subst h
        exact pG_ret (r := some (.int ((-1)))) rfl ⟨rfl, rfl⟩
      · rw [if_neg hc105] at h
        refine pG_iff (t := 21) rfl rfl hc105 ?_
        refine pG_many 3 (pc1 := 15) (L1 := [some (.ref 211), some (.int p0), some (.int p1)]) (st1 := [.int p1, .int p0, .ref 211]) (M1 := mjTo Z) rfl ?_
        cases hq106 : f257_comesTo p0 p1 Z with
        | none => rw [hq106] at h; cases h
        | some v107 =>
          rw [hq106, mjBp_some] at h
          refine pG_callV (k2 := 257) (As := [.ref 211, .int p0, .int p1]) (rest := []) rfl rfl rfl rfl rfl (by rfl) (by decide) (f257_comesTo_ok hq106) ?_
          rintro r9 M9 ⟨rfl, rfl⟩
          show pG 258 18 [some (.ref 211), some (.int p0), some (.int p1)] [.int v107] (mjTo Z) _
          refine pG_many 1 (pc1 := 22) (L1 := [some (.ref 211), some (.int p0), some (.int p1)]) (st1 := [.int v107]) (M1 := mjTo Z) rfl ?_
          simp only [Option.some.injEq] at h
          subst h
          exact pG_ret (r := some (.int v107)) rfl ⟨rfl, rfl⟩
def f259_keyedAt_h27 (K : Int32 → Int32 → Int32 → mjZt → Option Int32) : Nat → Int32 → Int32 → Int32 → Int32 → mjZt → Option Int32
  | 0, _, _, _, _, _ => none
  | n + 1, x1, x2, x3, x4, Z =>
    if mjCmp .ge x4 (Z.1 211 39) = true then
      K x1 x2 x3 Z
    else
      if mjIn x4 6 = true then
      if mjCmp .eq (Z.1 242 (mjIx x4)) 0 = true then
        mjBp (f196_truth 0 Z) fun v108 =>
        f259_keyedAt_h27 K n x1 x2 (x3 + v108) (x4 + 1) Z
      else
        if mjIn x2 6 = true then
        if mjCmp .lt (Z.1 241 (mjIx x4)) (Z.1 241 (mjIx x2)) = true then
          mjBp (f196_truth 1 Z) fun v113 =>
          f259_keyedAt_h27 K n x1 x2 (x3 + v113) (x4 + 1) Z
        else
          if mjCmp .ne (Z.1 241 (mjIx x4)) (Z.1 241 (mjIx x2)) = true then
            mjBp (f196_truth 0 Z) fun v117 =>
            f259_keyedAt_h27 K n x1 x2 (x3 + v117) (x4 + 1) Z
          else
            if mjCmp .ge (Z.1 230 (mjIx x4)) (Z.1 230 (mjIx x2)) = true then
              mjBp (f196_truth 0 Z) fun v121 =>
              f259_keyedAt_h27 K n x1 x2 (x3 + v121) (x4 + 1) Z
            else
              mjBp (f196_truth 1 Z) fun v124 =>
              f259_keyedAt_h27 K n x1 x2 (x3 + v124) (x4 + 1) Z
        else none
      else none
set_option maxRecDepth 4000 in
theorem f259_keyedAt_h27_ok (K : Int32 → Int32 → Int32 → mjZt → Option Int32) (hK : ∀ (x1 : Int32) (x2 : Int32) (x3 : Int32) (d4 : Option Value) (Z : mjZt) (v9 : Int32), K x1 x2 x3 Z = some v9 → pG 259 111 [some (.ref 211), some (.int x1), some (.int x2), some (.int x3), d4] [] (mjTo Z) (fun r M1 => r = some (.int v9) ∧ M1 = mjTo Z)) : ∀ (n : Nat) (x1 : Int32) (x2 : Int32) (x3 : Int32) (x4 : Int32) (Z : mjZt) (v9 : Int32), f259_keyedAt_h27 K n x1 x2 x3 x4 Z = some v9 → pG 259 27 [some (.ref 211), some (.int x1), some (.int x2), some (.int x3), some (.int x4)] [] (mjTo Z) (fun r M1 => r = some (.int v9) ∧ M1 = mjTo Z)
  | 0, x1, x2, x3, x4, Z, v9, h => by rw [f259_keyedAt_h27] at h; cases h
  | n + 1, x1, x2, x3, x4, Z, v9, h => by
      rw [f259_keyedAt_h27] at h
      refine pG_many 2 (pc1 := 30) (L1 := [some (.ref 211), some (.int x1), some (.int x2), some (.int x3), some (.int x4)]) (st1 := [.ref 211, .int x4]) (M1 := mjTo Z) rfl ?_
      refine pG_getI (ci := 12) (f := 39) rfl rfl (Or.inl rfl) (by rfl) ?_
      by_cases hc104 : mjCmp .ge x4 (Z.1 211 39) = true
      · rw [if_pos hc104] at h
        refine pG_cmt (t := 111) rfl rfl hc104 ?_
        exact hK x1 x2 x3 (some (.int x4)) Z v9 h
      · rw [if_neg hc104] at h
        refine pG_cmf (t := 111) rfl rfl hc104 ?_
        refine pG_many 2 (pc1 := 38) (L1 := [some (.ref 211), some (.int x1), some (.int x2), some (.int x3), some (.int x4)]) (st1 := [.ref 211, .int x3]) (M1 := mjTo Z) rfl ?_
        refine pG_getR (ci := 12) (f := 58) (b := 242) rfl rfl rfl (by rfl) rfl ?_
        refine pG_many 1 (pc1 := 43) (L1 := [some (.ref 211), some (.int x1), some (.int x2), some (.int x3), some (.int x4)]) (st1 := [.int x4, .ref 242, .int x3]) (M1 := mjTo Z) rfl ?_
        have hk105 : mjIn x4 6 = true := by
          by_cases q9 : mjIn x4 6 = true
          · exact q9
          · rw [if_neg q9] at h; cases h
        rw [if_pos hk105] at h
        refine pG_bal rfl (by rfl) hk105 ?_
        by_cases hc106 : mjCmp .eq (Z.1 242 (mjIx x4)) 0 = true
        · rw [if_pos hc106] at h
          refine pG_ift (t := 99) rfl rfl hc106 ?_
          refine pG_many 1 (pc1 := 100) (L1 := [some (.ref 211), some (.int x1), some (.int x2), some (.int x3), some (.int x4)]) (st1 := [.int 0, .int x3]) (M1 := mjTo Z) rfl ?_
          cases hq107 : f196_truth 0 Z with
          | none => rw [hq107] at h; cases h
          | some v108 =>
            rw [hq107, mjBp_some] at h
            refine pG_call (k2 := 196) (As := [.int 0]) (rest := [.int x3]) rfl (by decide) (f196_truth_ok hq107) ?_
            rintro r9 M9 ⟨rfl, rfl⟩
            show pG 259 103 [some (.ref 211), some (.int x1), some (.int x2), some (.int x3), some (.int x4)] [.int v108, .int x3] (mjTo Z) _
            refine pG_many 4 (pc1 := 27) (L1 := [some (.ref 211), some (.int x1), some (.int x2), some (.int (x3 + v108)), some (.int (x4 + 1))]) (st1 := []) (M1 := mjTo Z) rfl ?_
            exact f259_keyedAt_h27_ok K hK n x1 x2 (x3 + v108) (x4 + 1) Z v9 h
        · rw [if_neg hc106] at h
          refine pG_iff (t := 99) rfl rfl hc106 ?_
          refine pG_many 1 (pc1 := 48) (L1 := [some (.ref 211), some (.int x1), some (.int x2), some (.int x3), some (.int x4)]) (st1 := [.ref 211, .int x3]) (M1 := mjTo Z) rfl ?_
          refine pG_getR (ci := 12) (f := 57) (b := 241) rfl rfl rfl (by rfl) rfl ?_
          refine pG_many 1 (pc1 := 53) (L1 := [some (.ref 211), some (.int x1), some (.int x2), some (.int x3), some (.int x4)]) (st1 := [.int x4, .ref 241, .int x3]) (M1 := mjTo Z) rfl ?_
          refine pG_ial rfl (by rfl) hk105 ?_
          refine pG_many 1 (pc1 := 55) (L1 := [some (.ref 211), some (.int x1), some (.int x2), some (.int x3), some (.int x4)]) (st1 := [.ref 211, .int (Z.1 241 (mjIx x4)), .int x3]) (M1 := mjTo Z) rfl ?_
          refine pG_getR (ci := 12) (f := 57) (b := 241) rfl rfl rfl (by rfl) rfl ?_
          refine pG_many 1 (pc1 := 59) (L1 := [some (.ref 211), some (.int x1), some (.int x2), some (.int x3), some (.int x4)]) (st1 := [.int x2, .ref 241, .int (Z.1 241 (mjIx x4)), .int x3]) (M1 := mjTo Z) rfl ?_
          have hk110 : mjIn x2 6 = true := by
            by_cases q9 : mjIn x2 6 = true
            · exact q9
            · rw [if_neg q9] at h; cases h
          rw [if_pos hk110] at h
          refine pG_ial rfl (by rfl) hk110 ?_
          by_cases hc111 : mjCmp .lt (Z.1 241 (mjIx x4)) (Z.1 241 (mjIx x2)) = true
          · rw [if_pos hc111] at h
            refine pG_cmt (t := 95) rfl rfl hc111 ?_
            refine pG_many 2 (pc1 := 100) (L1 := [some (.ref 211), some (.int x1), some (.int x2), some (.int x3), some (.int x4)]) (st1 := [.int 1, .int x3]) (M1 := mjTo Z) rfl ?_
            cases hq112 : f196_truth 1 Z with
            | none => rw [hq112] at h; cases h
            | some v113 =>
              rw [hq112, mjBp_some] at h
              refine pG_call (k2 := 196) (As := [.int 1]) (rest := [.int x3]) rfl (by decide) (f196_truth_ok hq112) ?_
              rintro r9 M9 ⟨rfl, rfl⟩
              show pG 259 103 [some (.ref 211), some (.int x1), some (.int x2), some (.int x3), some (.int x4)] [.int v113, .int x3] (mjTo Z) _
              refine pG_many 4 (pc1 := 27) (L1 := [some (.ref 211), some (.int x1), some (.int x2), some (.int (x3 + v113)), some (.int (x4 + 1))]) (st1 := []) (M1 := mjTo Z) rfl ?_
              exact f259_keyedAt_h27_ok K hK n x1 x2 (x3 + v113) (x4 + 1) Z v9 h
          · rw [if_neg hc111] at h
            refine pG_cmf (t := 95) rfl rfl hc111 ?_
            refine pG_many 1 (pc1 := 64) (L1 := [some (.ref 211), some (.int x1), some (.int x2), some (.int x3), some (.int x4)]) (st1 := [.ref 211, .int x3]) (M1 := mjTo Z) rfl ?_
            refine pG_getR (ci := 12) (f := 57) (b := 241) rfl rfl rfl (by rfl) rfl ?_
            refine pG_many 1 (pc1 := 69) (L1 := [some (.ref 211), some (.int x1), some (.int x2), some (.int x3), some (.int x4)]) (st1 := [.int x4, .ref 241, .int x3]) (M1 := mjTo Z) rfl ?_
            refine pG_ial rfl (by rfl) hk105 ?_
            refine pG_many 1 (pc1 := 71) (L1 := [some (.ref 211), some (.int x1), some (.int x2), some (.int x3), some (.int x4)]) (st1 := [.ref 211, .int (Z.1 241 (mjIx x4)), .int x3]) (M1 := mjTo Z) rfl ?_
            refine pG_getR (ci := 12) (f := 57) (b := 241) rfl rfl rfl (by rfl) rfl ?_
            refine pG_many 1 (pc1 := 75) (L1 := [some (.ref 211), some (.int x1), some (.int x2), some (.int x3), some (.int x4)]) (st1 := [.int x2, .ref 241, .int (Z.1 241 (mjIx x4)), .int x3]) (M1 := mjTo Z) rfl ?_
            refine pG_ial rfl (by rfl) hk110 ?_
            by_cases hc115 : mjCmp .ne (Z.1 241 (mjIx x4)) (Z.1 241 (mjIx x2)) = true
            · rw [if_pos hc115] at h
              refine pG_cmt (t := 99) rfl rfl hc115 ?_
              refine pG_many 1 (pc1 := 100) (L1 := [some (.ref 211), some (.int x1), some (.int x2), some (.int x3), some (.int x4)]) (st1 := [.int 0, .int x3]) (M1 := mjTo Z) rfl ?_
              cases hq116 : f196_truth 0 Z with
              | none => rw [hq116] at h; cases h
              | some v117 =>
                rw [hq116, mjBp_some] at h
                refine pG_call (k2 := 196) (As := [.int 0]) (rest := [.int x3]) rfl (by decide) (f196_truth_ok hq116) ?_
                rintro r9 M9 ⟨rfl, rfl⟩
                show pG 259 103 [some (.ref 211), some (.int x1), some (.int x2), some (.int x3), some (.int x4)] [.int v117, .int x3] (mjTo Z) _
                refine pG_many 4 (pc1 := 27) (L1 := [some (.ref 211), some (.int x1), some (.int x2), some (.int (x3 + v117)), some (.int (x4 + 1))]) (st1 := []) (M1 := mjTo Z) rfl ?_
                exact f259_keyedAt_h27_ok K hK n x1 x2 (x3 + v117) (x4 + 1) Z v9 h
            · rw [if_neg hc115] at h
              refine pG_cmf (t := 99) rfl rfl hc115 ?_
              refine pG_many 1 (pc1 := 80) (L1 := [some (.ref 211), some (.int x1), some (.int x2), some (.int x3), some (.int x4)]) (st1 := [.ref 211, .int x3]) (M1 := mjTo Z) rfl ?_
              refine pG_getR (ci := 12) (f := 45) (b := 230) rfl rfl rfl (by rfl) rfl ?_
              refine pG_many 1 (pc1 := 85) (L1 := [some (.ref 211), some (.int x1), some (.int x2), some (.int x3), some (.int x4)]) (st1 := [.int x4, .ref 230, .int x3]) (M1 := mjTo Z) rfl ?_
              refine pG_ial rfl (by rfl) hk105 ?_
              refine pG_many 1 (pc1 := 87) (L1 := [some (.ref 211), some (.int x1), some (.int x2), some (.int x3), some (.int x4)]) (st1 := [.ref 211, .int (Z.1 230 (mjIx x4)), .int x3]) (M1 := mjTo Z) rfl ?_
              refine pG_getR (ci := 12) (f := 45) (b := 230) rfl rfl rfl (by rfl) rfl ?_
              refine pG_many 1 (pc1 := 91) (L1 := [some (.ref 211), some (.int x1), some (.int x2), some (.int x3), some (.int x4)]) (st1 := [.int x2, .ref 230, .int (Z.1 230 (mjIx x4)), .int x3]) (M1 := mjTo Z) rfl ?_
              refine pG_ial rfl (by rfl) hk110 ?_
              by_cases hc119 : mjCmp .ge (Z.1 230 (mjIx x4)) (Z.1 230 (mjIx x2)) = true
              · rw [if_pos hc119] at h
                refine pG_cmt (t := 99) rfl rfl hc119 ?_
                refine pG_many 1 (pc1 := 100) (L1 := [some (.ref 211), some (.int x1), some (.int x2), some (.int x3), some (.int x4)]) (st1 := [.int 0, .int x3]) (M1 := mjTo Z) rfl ?_
                cases hq120 : f196_truth 0 Z with
                | none => rw [hq120] at h; cases h
                | some v121 =>
                  rw [hq120, mjBp_some] at h
                  refine pG_call (k2 := 196) (As := [.int 0]) (rest := [.int x3]) rfl (by decide) (f196_truth_ok hq120) ?_
                  rintro r9 M9 ⟨rfl, rfl⟩
                  show pG 259 103 [some (.ref 211), some (.int x1), some (.int x2), some (.int x3), some (.int x4)] [.int v121, .int x3] (mjTo Z) _
                  refine pG_many 4 (pc1 := 27) (L1 := [some (.ref 211), some (.int x1), some (.int x2), some (.int (x3 + v121)), some (.int (x4 + 1))]) (st1 := []) (M1 := mjTo Z) rfl ?_
                  exact f259_keyedAt_h27_ok K hK n x1 x2 (x3 + v121) (x4 + 1) Z v9 h
              · rw [if_neg hc119] at h
                refine pG_cmf (t := 99) rfl rfl hc119 ?_
                refine pG_many 2 (pc1 := 100) (L1 := [some (.ref 211), some (.int x1), some (.int x2), some (.int x3), some (.int x4)]) (st1 := [.int 1, .int x3]) (M1 := mjTo Z) rfl ?_
                cases hq123 : f196_truth 1 Z with
                | none => rw [hq123] at h; cases h
                | some v124 =>
                  rw [hq123, mjBp_some] at h
                  refine pG_call (k2 := 196) (As := [.int 1]) (rest := [.int x3]) rfl (by decide) (f196_truth_ok hq123) ?_
                  rintro r9 M9 ⟨rfl, rfl⟩
                  show pG 259 103 [some (.ref 211), some (.int x1), some (.int x2), some (.int x3), some (.int x4)] [.int v124, .int x3] (mjTo Z) _
                  refine pG_many 4 (pc1 := 27) (L1 := [some (.ref 211), some (.int x1), some (.int x2), some (.int (x3 + v124)), some (.int (x4 + 1))]) (st1 := []) (M1 := mjTo Z) rfl ?_
                  exact f259_keyedAt_h27_ok K hK n x1 x2 (x3 + v124) (x4 + 1) Z v9 h
def f259_keyedAt_h2 : Nat → Int32 → Int32 → mjZt → Option Int32
  | 0, _, _, _ => none
  | n + 1, x1, x2, Z =>
    if mjCmp .ge x2 (Z.1 211 39) = true then
      some ((-1))
    else
      if mjIn x2 6 = true then
      if mjCmp .ne (Z.1 242 (mjIx x2)) 0 = true then
        f259_keyedAt_h27 (fun x1_Z126 x2_Z126 x3_Z126 Z126 =>
          if mjCmp .ne x3_Z126 x1_Z126 = true then
            f259_keyedAt_h2 n x1_Z126 (x2_Z126 + 1) Z126
          else
            some x2_Z126
          ) mjF x1 x2 0 0 Z
      else
        f259_keyedAt_h2 n x1 (x2 + 1) Z
      else none
set_option maxRecDepth 4000 in
theorem f259_keyedAt_h2_ok : ∀ (n : Nat) (x1 : Int32) (x2 : Int32) (d3 d4 : Option Value) (Z : mjZt) (v9 : Int32), f259_keyedAt_h2 n x1 x2 Z = some v9 → pG 259 2 [some (.ref 211), some (.int x1), some (.int x2), d3, d4] [] (mjTo Z) (fun r M1 => r = some (.int v9) ∧ M1 = mjTo Z)
  | 0, x1, x2, d3, d4, Z, v9, h => by rw [f259_keyedAt_h2] at h; cases h
  | n + 1, x1, x2, d3, d4, Z, v9, h => by
      rw [f259_keyedAt_h2] at h
      refine pG_many 2 (pc1 := 4) (L1 := [some (.ref 211), some (.int x1), some (.int x2), d3, d4]) (st1 := [.ref 211, .int x2]) (M1 := mjTo Z) rfl ?_
      refine pG_getI (ci := 12) (f := 39) rfl rfl (Or.inl rfl) (by rfl) ?_
      by_cases hc101 : mjCmp .ge x2 (Z.1 211 39) = true
      · rw [if_pos hc101] at h
        refine pG_cmt (t := 124) rfl rfl hc101 ?_
        refine pG_many 1 (pc1 := 125) (L1 := [some (.ref 211), some (.int x1), some (.int x2), d3, d4]) (st1 := [.int ((-1))]) (M1 := mjTo Z) rfl ?_
        simp only [Option.some.injEq] at h
        subst h
        exact pG_ret (r := some (.int ((-1)))) rfl ⟨rfl, rfl⟩
      · rw [if_neg hc101] at h
        refine pG_cmf (t := 124) rfl rfl hc101 ?_
        refine pG_many 1 (pc1 := 11) (L1 := [some (.ref 211), some (.int x1), some (.int x2), d3, d4]) (st1 := [.ref 211]) (M1 := mjTo Z) rfl ?_
        refine pG_getR (ci := 12) (f := 58) (b := 242) rfl rfl rfl (by rfl) rfl ?_
        refine pG_many 1 (pc1 := 15) (L1 := [some (.ref 211), some (.int x1), some (.int x2), d3, d4]) (st1 := [.int x2, .ref 242]) (M1 := mjTo Z) rfl ?_
        have hk102 : mjIn x2 6 = true := by
          by_cases q9 : mjIn x2 6 = true
          · exact q9
          · rw [if_neg q9] at h; cases h
        rw [if_pos hk102] at h
        refine pG_bal rfl (by rfl) hk102 ?_
        by_cases hc103 : mjCmp .ne (Z.1 242 (mjIx x2)) 0 = true
        · rw [if_pos hc103] at h
          refine pG_ift (t := 22) rfl rfl hc103 ?_
          refine pG_many 4 (pc1 := 27) (L1 := [some (.ref 211), some (.int x1), some (.int x2), some (.int 0), some (.int 0)]) (st1 := []) (M1 := mjTo Z) rfl ?_
          refine f259_keyedAt_h27_ok _ ?_ mjF x1 x2 0 0 Z v9 h
          clear h
          intro x1_Z126 x2_Z126 x3_Z126 d4 Z126 v9 h
          refine pG_many 2 (pc1 := 113) (L1 := [some (.ref 211), some (.int x1_Z126), some (.int x2_Z126), some (.int x3_Z126), d4]) (st1 := [.int x1_Z126, .int x3_Z126]) (M1 := mjTo Z126) rfl ?_
          by_cases hc127 : mjCmp .ne x3_Z126 x1_Z126 = true
          · rw [if_pos hc127] at h
            refine pG_cmt (t := 118) rfl rfl hc127 ?_
            refine pG_many 2 (pc1 := 2) (L1 := [some (.ref 211), some (.int x1_Z126), some (.int (x2_Z126 + 1)), some (.int x3_Z126), d4]) (st1 := []) (M1 := mjTo Z126) rfl ?_
            exact f259_keyedAt_h2_ok n x1_Z126 (x2_Z126 + 1) (some (.int x3_Z126)) d4 Z126 v9 h
          · rw [if_neg hc127] at h
            refine pG_cmf (t := 118) rfl rfl hc127 ?_
            refine pG_many 1 (pc1 := 117) (L1 := [some (.ref 211), some (.int x1_Z126), some (.int x2_Z126), some (.int x3_Z126), d4]) (st1 := [.int x2_Z126]) (M1 := mjTo Z126) rfl ?_
            simp only [Option.some.injEq] at h
            subst h
            exact pG_ret (r := some (.int x2_Z126)) rfl ⟨rfl, rfl⟩
        · rw [if_neg hc103] at h
          refine pG_iff (t := 22) rfl rfl hc103 ?_
          refine pG_many 3 (pc1 := 2) (L1 := [some (.ref 211), some (.int x1), some (.int (x2 + 1)), d3, d4]) (st1 := []) (M1 := mjTo Z) rfl ?_
          exact f259_keyedAt_h2_ok n x1 (x2 + 1) d3 d4 Z v9 h
def f259_keyedAt (p0 : Int32) (Z : mjZt) : Option Int32 :=
  f259_keyedAt_h2 mjF p0 0 Z
set_option maxRecDepth 4000 in
theorem f259_keyedAt_ok {p0 : Int32} {Z : mjZt} {v9 : Int32} (h : f259_keyedAt p0 Z = some v9) : pG 259 0 (mjEnt [.ref 211, .int p0] (mjML 259)) [] (mjTo Z) (fun r M1 => r = some (.int v9) ∧ M1 = mjTo Z) := by
  unfold f259_keyedAt at h
  show pG 259 0 [some (.ref 211), some (.int p0), none, none, none] [] (mjTo Z) _
  refine pG_many 2 (pc1 := 2) (L1 := [some (.ref 211), some (.int p0), some (.int 0), none, none]) (st1 := []) (M1 := mjTo Z) rfl ?_
  exact f259_keyedAt_h2_ok mjF p0 0 none none Z v9 h
def f260_order_h12 : Nat → Int32 → Int32 → Int32 → mjZt → Option (Int32 × mjZt)
  | 0, _, _, _, _ => none
  | n + 1, x1, x2, x3, Z =>
    if mjCmp .ge x3 (Z.1 211 39) = true then
      mjBp (f259_keyedAt x2 Z) fun v107 =>
      some (v107, Z)
    else
      if mjIn x3 6 = true then
      mjLet (zSi Z 242 (mjIx x3) 1) fun Z110 =>
      mjBp (f249_placeOf x3 x1 Z110) fun v112 =>
      mjLet (zSi Z110 241 (mjIx x3) (-v112)) fun Z114 =>
      f260_order_h12 n x1 x2 (x3 + 1) Z114
      else none
set_option maxRecDepth 4000 in
theorem f260_order_h12_ok : ∀ (n : Nat) (x1 : Int32) (x2 : Int32) (x3 : Int32) (Z : mjZt) (v9 : Int32) (Z9 : mjZt), f260_order_h12 n x1 x2 x3 Z = some (v9, Z9) → pG 260 12 [some (.ref 211), some (.int x1), some (.int x2), some (.int x3)] [] (mjTo Z) (fun r M1 => r = some (.int v9) ∧ M1 = mjTo Z9)
  | 0, x1, x2, x3, Z, v9, Z9, h => by rw [f260_order_h12] at h; cases h
  | n + 1, x1, x2, x3, Z, v9, Z9, h => by
      rw [f260_order_h12] at h
      refine pG_many 2 (pc1 := 14) (L1 := [some (.ref 211), some (.int x1), some (.int x2), some (.int x3)]) (st1 := [.ref 211, .int x3]) (M1 := mjTo Z) rfl ?_
      refine pG_getI (ci := 12) (f := 39) rfl rfl (Or.inl rfl) (by rfl) ?_
      by_cases hc105 : mjCmp .ge x3 (Z.1 211 39) = true
      · rw [if_pos hc105] at h
        refine pG_cmt (t := 46) rfl rfl hc105 ?_
        refine pG_many 2 (pc1 := 48) (L1 := [some (.ref 211), some (.int x1), some (.int x2), some (.int x3)]) (st1 := [.int x2, .ref 211]) (M1 := mjTo Z) rfl ?_
        cases hq106 : f259_keyedAt x2 Z with
        | none => rw [hq106] at h; cases h
        | some v107 =>
          rw [hq106, mjBp_some] at h
          refine pG_callV (k2 := 259) (As := [.ref 211, .int x2]) (rest := []) rfl rfl rfl rfl rfl (by rfl) (by decide) (f259_keyedAt_ok hq106) ?_
          rintro r9 M9 ⟨rfl, rfl⟩
          show pG 260 51 [some (.ref 211), some (.int x1), some (.int x2), some (.int x3)] [.int v107] (mjTo Z) _
          simp only [Option.some.injEq, Prod.mk.injEq] at h
          obtain ⟨rfl, rfl⟩ := h
          exact pG_ret (r := some (.int v107)) rfl ⟨rfl, rfl⟩
      · rw [if_neg hc105] at h
        refine pG_cmf (t := 46) rfl rfl hc105 ?_
        refine pG_many 1 (pc1 := 21) (L1 := [some (.ref 211), some (.int x1), some (.int x2), some (.int x3)]) (st1 := [.ref 211]) (M1 := mjTo Z) rfl ?_
        refine pG_getR (ci := 12) (f := 58) (b := 242) rfl rfl rfl (by rfl) rfl ?_
        refine pG_many 2 (pc1 := 26) (L1 := [some (.ref 211), some (.int x1), some (.int x2), some (.int x3)]) (st1 := [.int 1, .int x3, .ref 242]) (M1 := mjTo Z) rfl ?_
        have hk109 : mjIn x3 6 = true := by
          by_cases q9 : mjIn x3 6 = true
          · exact q9
          · rw [if_neg q9] at h; cases h
        rw [if_pos hk109] at h
        refine pG_bas rfl (by rfl) hk109 (Or.inr rfl) (?_ : pG 260 27 [some (.ref 211), some (.int x1), some (.int x2), some (.int x3)] [] (mjTo (zSi Z 242 (mjIx x3) 1)) _)
        rw [mjLet] at h
        generalize zSi Z 242 (mjIx x3) 1 = Z110 at h ⊢
        refine pG_many 1 (pc1 := 28) (L1 := [some (.ref 211), some (.int x1), some (.int x2), some (.int x3)]) (st1 := [.ref 211]) (M1 := mjTo Z110) rfl ?_
        refine pG_getR (ci := 12) (f := 57) (b := 241) rfl rfl rfl (by rfl) rfl ?_
        refine pG_many 4 (pc1 := 35) (L1 := [some (.ref 211), some (.int x1), some (.int x2), some (.int x3)]) (st1 := [.int x1, .int x3, .ref 211, .int x3, .ref 241]) (M1 := mjTo Z110) rfl ?_
        cases hq111 : f249_placeOf x3 x1 Z110 with
        | none => rw [hq111] at h; cases h
        | some v112 =>
          rw [hq111, mjBp_some] at h
          refine pG_callV (k2 := 249) (As := [.ref 211, .int x3, .int x1]) (rest := [.int x3, .ref 241]) rfl rfl rfl rfl rfl (by rfl) (by decide) (f249_placeOf_ok hq111) ?_
          rintro r9 M9 ⟨rfl, rfl⟩
          show pG 260 38 [some (.ref 211), some (.int x1), some (.int x2), some (.int x3)] [.int v112, .int x3, .ref 241] (mjTo Z110) _
          refine pG_many 1 (pc1 := 39) (L1 := [some (.ref 211), some (.int x1), some (.int x2), some (.int x3)]) (st1 := [.int (-v112), .int x3, .ref 241]) (M1 := mjTo Z110) rfl ?_
          refine pG_ias rfl (by rfl) hk109 (?_ : pG 260 40 [some (.ref 211), some (.int x1), some (.int x2), some (.int x3)] [] (mjTo (zSi Z110 241 (mjIx x3) (-v112))) _)
          rw [mjLet] at h
          generalize zSi Z110 241 (mjIx x3) (-v112) = Z114 at h ⊢
          refine pG_many 2 (pc1 := 12) (L1 := [some (.ref 211), some (.int x1), some (.int x2), some (.int (x3 + 1))]) (st1 := []) (M1 := mjTo Z114) rfl ?_
          exact f260_order_h12_ok n x1 x2 (x3 + 1) Z114 v9 Z9 h
def f260_order (p0 : Int32) (p1 : Int32) (Z : mjZt) : Option (Int32 × mjZt) :=
  mjBp (f241_isTenth p0 Z) fun v102 =>
  if mjCmp .ne v102 0 = true then
    f260_order_h12 mjF p0 p1 0 Z
  else
    some ((-1), Z)
set_option maxRecDepth 4000 in
theorem f260_order_ok {p0 : Int32} {p1 : Int32} {Z : mjZt} {v9 : Int32} {Z9 : mjZt} (h : f260_order p0 p1 Z = some (v9, Z9)) : pG 260 0 (mjEnt [.ref 211, .int p0, .int p1] (mjML 260)) [] (mjTo Z) (fun r M1 => r = some (.int v9) ∧ M1 = mjTo Z9) := by
  unfold f260_order at h
  show pG 260 0 [some (.ref 211), some (.int p0), some (.int p1), none] [] (mjTo Z) _
  refine pG_many 2 (pc1 := 2) (L1 := [some (.ref 211), some (.int p0), some (.int p1), none]) (st1 := [.int p0, .ref 211]) (M1 := mjTo Z) rfl ?_
  cases hq101 : f241_isTenth p0 Z with
  | none => rw [hq101] at h; cases h
  | some v102 =>
    rw [hq101, mjBp_some] at h
    refine pG_callV (k2 := 241) (As := [.ref 211, .int p0]) (rest := []) rfl rfl rfl rfl rfl (by rfl) (by decide) (f241_isTenth_ok hq101) ?_
    rintro r9 M9 ⟨rfl, rfl⟩
    show pG 260 5 [some (.ref 211), some (.int p0), some (.int p1), none] [.int v102] (mjTo Z) _
    by_cases hc104 : mjCmp .ne v102 0 = true
    · rw [if_pos hc104] at h
      refine pG_ift (t := 10) rfl rfl hc104 ?_
      refine pG_many 2 (pc1 := 12) (L1 := [some (.ref 211), some (.int p0), some (.int p1), some (.int 0)]) (st1 := []) (M1 := mjTo Z) rfl ?_
      exact f260_order_h12_ok mjF p0 p1 0 Z v9 Z9 h
    · rw [if_neg hc104] at h
      refine pG_iff (t := 10) rfl rfl hc104 ?_
      refine pG_many 1 (pc1 := 9) (L1 := [some (.ref 211), some (.int p0), some (.int p1), none]) (st1 := [.int ((-1))]) (M1 := mjTo Z) rfl ?_
      simp only [Option.some.injEq, Prod.mk.injEq] at h
      obtain ⟨rfl, rfl⟩ := h
      exact pG_ret (r := some (.int ((-1)))) rfl ⟨rfl, rfl⟩
def f261_boldest_h42 (K : Int32 → Int32 → Int32 → Int32 → Int32 → mjZt → Option Int32) : Nat → Int32 → Int32 → Int32 → Int32 → Int32 → Int32 → mjZt → Option Int32
  | 0, _, _, _, _, _, _, _ => none
  | n + 1, x1, x2, x3, x4, x5, x6, Z =>
    if mjCmp .ge x6 (Z.1 211 39) = true then
      K x1 x2 x3 x4 x5 Z
    else
      if mjCmp .ne x6 x1 = true then
        mjBp (f249_placeOf x6 x4 Z) fun v110 =>
        if mjCmp .le v110 x5 = true then
          f261_boldest_h42 K n x1 x2 x3 x4 x5 (x6 + 1) Z
        else
          f261_boldest_h42 K n x1 x2 x3 x4 v110 (x6 + 1) Z
      else
        if mjCmp .le 0 x5 = true then
          f261_boldest_h42 K n x1 x2 x3 x4 x5 (x6 + 1) Z
        else
          f261_boldest_h42 K n x1 x2 x3 x4 0 (x6 + 1) Z
set_option maxRecDepth 4000 in
theorem f261_boldest_h42_ok (K : Int32 → Int32 → Int32 → Int32 → Int32 → mjZt → Option Int32) (hK : ∀ (x1 : Int32) (x2 : Int32) (x3 : Int32) (x4 : Int32) (x5 : Int32) (d6 d7 : Option Value) (Z : mjZt) (v9 : Int32), K x1 x2 x3 x4 x5 Z = some v9 → pG 261 93 [some (.ref 211), some (.int x1), some (.int x2), some (.int x3), some (.int x4), some (.int x5), d6, d7] [] (mjTo Z) (fun r M1 => r = some (.int v9) ∧ M1 = mjTo Z)) : ∀ (n : Nat) (x1 : Int32) (x2 : Int32) (x3 : Int32) (x4 : Int32) (x5 : Int32) (x6 : Int32) (d7 : Option Value) (Z : mjZt) (v9 : Int32), f261_boldest_h42 K n x1 x2 x3 x4 x5 x6 Z = some v9 → pG 261 42 [some (.ref 211), some (.int x1), some (.int x2), some (.int x3), some (.int x4), some (.int x5), some (.int x6), d7] [] (mjTo Z) (fun r M1 => r = some (.int v9) ∧ M1 = mjTo Z)
  | 0, x1, x2, x3, x4, x5, x6, d7, Z, v9, h => by rw [f261_boldest_h42] at h; cases h
  | n + 1, x1, x2, x3, x4, x5, x6, d7, Z, v9, h => by
      rw [f261_boldest_h42] at h
      refine pG_many 2 (pc1 := 45) (L1 := [some (.ref 211), some (.int x1), some (.int x2), some (.int x3), some (.int x4), some (.int x5), some (.int x6), d7]) (st1 := [.ref 211, .int x6]) (M1 := mjTo Z) rfl ?_
      refine pG_getI (ci := 12) (f := 39) rfl rfl (Or.inl rfl) (by rfl) ?_
      by_cases hc107 : mjCmp .ge x6 (Z.1 211 39) = true
      · rw [if_pos hc107] at h
        refine pG_cmt (t := 93) rfl rfl hc107 ?_
        exact hK x1 x2 x3 x4 x5 (some (.int x6)) d7 Z v9 h
      · rw [if_neg hc107] at h
        refine pG_cmf (t := 93) rfl rfl hc107 ?_
        refine pG_many 2 (pc1 := 54) (L1 := [some (.ref 211), some (.int x1), some (.int x2), some (.int x3), some (.int x4), some (.int x5), some (.int x6), d7]) (st1 := [.int x1, .int x6]) (M1 := mjTo Z) rfl ?_
        by_cases hc108 : mjCmp .ne x6 x1 = true
        · rw [if_pos hc108] at h
          refine pG_cmt (t := 61) rfl rfl hc108 ?_
          refine pG_many 3 (pc1 := 66) (L1 := [some (.ref 211), some (.int x1), some (.int x2), some (.int x3), some (.int x4), some (.int x5), some (.int x6), d7]) (st1 := [.int x4, .int x6, .ref 211]) (M1 := mjTo Z) rfl ?_
          cases hq109 : f249_placeOf x6 x4 Z with
          | none => rw [hq109] at h; cases h
          | some v110 =>
            rw [hq109, mjBp_some] at h
            refine pG_callV (k2 := 249) (As := [.ref 211, .int x6, .int x4]) (rest := []) rfl rfl rfl rfl rfl (by rfl) (by decide) (f249_placeOf_ok hq109) ?_
            rintro r9 M9 ⟨rfl, rfl⟩
            show pG 261 69 [some (.ref 211), some (.int x1), some (.int x2), some (.int x3), some (.int x4), some (.int x5), some (.int x6), d7] [.int v110] (mjTo Z) _
            refine pG_many 3 (pc1 := 75) (L1 := [some (.ref 211), some (.int x1), some (.int x2), some (.int x3), some (.int x4), some (.int x5), some (.int x6), some (.int v110)]) (st1 := [.int x5, .int v110]) (M1 := mjTo Z) rfl ?_
            by_cases hc112 : mjCmp .le v110 x5 = true
            · rw [if_pos hc112] at h
              refine pG_cmt (t := 83) rfl rfl hc112 ?_
              refine pG_many 4 (pc1 := 42) (L1 := [some (.ref 211), some (.int x1), some (.int x2), some (.int x3), some (.int x4), some (.int x5), some (.int (x6 + 1)), some (.int v110)]) (st1 := []) (M1 := mjTo Z) rfl ?_
              exact f261_boldest_h42_ok K hK n x1 x2 x3 x4 x5 (x6 + 1) (some (.int v110)) Z v9 h
            · rw [if_neg hc112] at h
              refine pG_cmf (t := 83) rfl rfl hc112 ?_
              refine pG_many 5 (pc1 := 42) (L1 := [some (.ref 211), some (.int x1), some (.int x2), some (.int x3), some (.int x4), some (.int v110), some (.int (x6 + 1)), some (.int v110)]) (st1 := []) (M1 := mjTo Z) rfl ?_
              exact f261_boldest_h42_ok K hK n x1 x2 x3 x4 v110 (x6 + 1) (some (.int v110)) Z v9 h
        · rw [if_neg hc108] at h
          refine pG_cmf (t := 61) rfl rfl hc108 ?_
          refine pG_many 5 (pc1 := 75) (L1 := [some (.ref 211), some (.int x1), some (.int x2), some (.int x3), some (.int x4), some (.int x5), some (.int x6), some (.int 0)]) (st1 := [.int x5, .int 0]) (M1 := mjTo Z) rfl ?_
          by_cases hc113 : mjCmp .le 0 x5 = true
          · rw [if_pos hc113] at h
            refine pG_cmt (t := 83) rfl rfl hc113 ?_
            refine pG_many 4 (pc1 := 42) (L1 := [some (.ref 211), some (.int x1), some (.int x2), some (.int x3), some (.int x4), some (.int x5), some (.int (x6 + 1)), some (.int 0)]) (st1 := []) (M1 := mjTo Z) rfl ?_
            exact f261_boldest_h42_ok K hK n x1 x2 x3 x4 x5 (x6 + 1) (some (.int 0)) Z v9 h
          · rw [if_neg hc113] at h
            refine pG_cmf (t := 83) rfl rfl hc113 ?_
            refine pG_many 5 (pc1 := 42) (L1 := [some (.ref 211), some (.int x1), some (.int x2), some (.int x3), some (.int x4), some (.int 0), some (.int (x6 + 1)), some (.int 0)]) (st1 := []) (M1 := mjTo Z) rfl ?_
            exact f261_boldest_h42_ok K hK n x1 x2 x3 x4 0 (x6 + 1) (some (.int 0)) Z v9 h
def f261_boldest_h28 : Nat → Int32 → Int32 → Int32 → Int32 → mjZt → Option Int32
  | 0, _, _, _, _, _ => none
  | n + 1, x1, x2, x3, x4, Z =>
    if mjCmp .gt x4 9999 = true then
      some x3
    else
      f261_boldest_h42 (fun x1_Z114 x2_Z114 x3_Z114 x4_Z114 x5_Z114 Z114 =>
        mjBp (f249_placeOf x1_Z114 x4_Z114 Z114) fun v116 =>
        if mjCmp .eq x3_Z114 ((-1)) = true then
          f261_boldest_h28 n x1_Z114 (v116 - x5_Z114) x4_Z114 (x4_Z114 + 1) Z114
        else
          if mjCmp .gt (v116 - x5_Z114) x2_Z114 = true then
            f261_boldest_h28 n x1_Z114 (v116 - x5_Z114) x4_Z114 (x4_Z114 + 1) Z114
          else
            f261_boldest_h28 n x1_Z114 x2_Z114 x3_Z114 (x4_Z114 + 1) Z114
        ) mjF x1 x2 x3 x4 0 0 Z
set_option maxRecDepth 4000 in
theorem f261_boldest_h28_ok : ∀ (n : Nat) (x1 : Int32) (x2 : Int32) (x3 : Int32) (x4 : Int32) (d5 d6 d7 : Option Value) (Z : mjZt) (v9 : Int32), f261_boldest_h28 n x1 x2 x3 x4 Z = some v9 → pG 261 28 [some (.ref 211), some (.int x1), some (.int x2), some (.int x3), some (.int x4), d5, d6, d7] [] (mjTo Z) (fun r M1 => r = some (.int v9) ∧ M1 = mjTo Z)
  | 0, x1, x2, x3, x4, d5, d6, d7, Z, v9, h => by rw [f261_boldest_h28] at h; cases h
  | n + 1, x1, x2, x3, x4, d5, d6, d7, Z, v9, h => by
      rw [f261_boldest_h28] at h
      refine pG_many 2 (pc1 := 33) (L1 := [some (.ref 211), some (.int x1), some (.int x2), some (.int x3), some (.int x4), d5, d6, d7]) (st1 := [.int 9999, .int x4]) (M1 := mjTo Z) rfl ?_
      by_cases hc106 : mjCmp .gt x4 9999 = true
      · rw [if_pos hc106] at h
        refine pG_cmt (t := 131) rfl rfl hc106 ?_
        refine pG_many 1 (pc1 := 132) (L1 := [some (.ref 211), some (.int x1), some (.int x2), some (.int x3), some (.int x4), d5, d6, d7]) (st1 := [.int x3]) (M1 := mjTo Z) rfl ?_
        simp only [Option.some.injEq] at h
        subst h
        exact pG_ret (r := some (.int x3)) rfl ⟨rfl, rfl⟩
      · rw [if_neg hc106] at h
        refine pG_cmf (t := 131) rfl rfl hc106 ?_
        refine pG_many 4 (pc1 := 42) (L1 := [some (.ref 211), some (.int x1), some (.int x2), some (.int x3), some (.int x4), some (.int 0), some (.int 0), d7]) (st1 := []) (M1 := mjTo Z) rfl ?_
        refine f261_boldest_h42_ok _ ?_ mjF x1 x2 x3 x4 0 0 d7 Z v9 h
        clear h
        intro x1_Z114 x2_Z114 x3_Z114 x4_Z114 x5_Z114 d6 d7 Z114 v9 h
        refine pG_many 3 (pc1 := 97) (L1 := [some (.ref 211), some (.int x1_Z114), some (.int x2_Z114), some (.int x3_Z114), some (.int x4_Z114), some (.int x5_Z114), d6, d7]) (st1 := [.int x4_Z114, .int x1_Z114, .ref 211]) (M1 := mjTo Z114) rfl ?_
        cases hq115 : f249_placeOf x1_Z114 x4_Z114 Z114 with
        | none => rw [hq115] at h; cases h
        | some v116 =>
          rw [hq115, mjBp_some] at h
          refine pG_callV (k2 := 249) (As := [.ref 211, .int x1_Z114, .int x4_Z114]) (rest := []) rfl rfl rfl rfl rfl (by rfl) (by decide) (f249_placeOf_ok hq115) ?_
          rintro r9 M9 ⟨rfl, rfl⟩
          show pG 261 100 [some (.ref 211), some (.int x1_Z114), some (.int x2_Z114), some (.int x3_Z114), some (.int x4_Z114), some (.int x5_Z114), d6, d7] [.int v116] (mjTo Z114) _
          refine pG_many 5 (pc1 := 107) (L1 := [some (.ref 211), some (.int x1_Z114), some (.int x2_Z114), some (.int x3_Z114), some (.int x4_Z114), some (.int x5_Z114), some (.int (v116 - x5_Z114)), d7]) (st1 := [.int ((-1)), .int x3_Z114]) (M1 := mjTo Z114) rfl ?_
          by_cases hc118 : mjCmp .eq x3_Z114 ((-1)) = true
          · rw [if_pos hc118] at h
            refine pG_cmt (t := 119) rfl rfl hc118 ?_
            refine pG_many 6 (pc1 := 28) (L1 := [some (.ref 211), some (.int x1_Z114), some (.int (v116 - x5_Z114)), some (.int x4_Z114), some (.int (x4_Z114 + 1)), some (.int x5_Z114), some (.int (v116 - x5_Z114)), d7]) (st1 := []) (M1 := mjTo Z114) rfl ?_
            exact f261_boldest_h28_ok n x1_Z114 (v116 - x5_Z114) x4_Z114 (x4_Z114 + 1) (some (.int x5_Z114)) (some (.int (v116 - x5_Z114))) d7 Z114 v9 h
          · rw [if_neg hc118] at h
            refine pG_cmf (t := 119) rfl rfl hc118 ?_
            refine pG_many 2 (pc1 := 113) (L1 := [some (.ref 211), some (.int x1_Z114), some (.int x2_Z114), some (.int x3_Z114), some (.int x4_Z114), some (.int x5_Z114), some (.int (v116 - x5_Z114)), d7]) (st1 := [.int x2_Z114, .int (v116 - x5_Z114)]) (M1 := mjTo Z114) rfl ?_
            by_cases hc119 : mjCmp .gt (v116 - x5_Z114) x2_Z114 = true
            · rw [if_pos hc119] at h
              refine pG_cmt (t := 119) rfl rfl hc119 ?_
              refine pG_many 6 (pc1 := 28) (L1 := [some (.ref 211), some (.int x1_Z114), some (.int (v116 - x5_Z114)), some (.int x4_Z114), some (.int (x4_Z114 + 1)), some (.int x5_Z114), some (.int (v116 - x5_Z114)), d7]) (st1 := []) (M1 := mjTo Z114) rfl ?_
              exact f261_boldest_h28_ok n x1_Z114 (v116 - x5_Z114) x4_Z114 (x4_Z114 + 1) (some (.int x5_Z114)) (some (.int (v116 - x5_Z114))) d7 Z114 v9 h
            · rw [if_neg hc119] at h
              refine pG_cmf (t := 119) rfl rfl hc119 ?_
              refine pG_many 3 (pc1 := 28) (L1 := [some (.ref 211), some (.int x1_Z114), some (.int x2_Z114), some (.int x3_Z114), some (.int (x4_Z114 + 1)), some (.int x5_Z114), some (.int (v116 - x5_Z114)), d7]) (st1 := []) (M1 := mjTo Z114) rfl ?_
              exact f261_boldest_h28_ok n x1_Z114 x2_Z114 x3_Z114 (x4_Z114 + 1) (some (.int x5_Z114)) (some (.int (v116 - x5_Z114))) d7 Z114 v9 h
def f261_boldest (p0 : Int32) (Z : mjZt) : Option Int32 :=
  mjBp (f240_isTeam p0 Z) fun v102 =>
  if mjCmp .ne v102 0 = true then
    if mjCmp .ne (Z.1 211 39) 1 = true then
      f261_boldest_h28 mjF p0 0 ((-1)) 0 Z
    else
      some ((-2))
  else
    some ((-1))
set_option maxRecDepth 4000 in
theorem f261_boldest_ok {p0 : Int32} {Z : mjZt} {v9 : Int32} (h : f261_boldest p0 Z = some v9) : pG 261 0 (mjEnt [.ref 211, .int p0] (mjML 261)) [] (mjTo Z) (fun r M1 => r = some (.int v9) ∧ M1 = mjTo Z) := by
  unfold f261_boldest at h
  show pG 261 0 [some (.ref 211), some (.int p0), none, none, none, none, none, none] [] (mjTo Z) _
  refine pG_many 2 (pc1 := 2) (L1 := [some (.ref 211), some (.int p0), none, none, none, none, none, none]) (st1 := [.int p0, .ref 211]) (M1 := mjTo Z) rfl ?_
  cases hq101 : f240_isTeam p0 Z with
  | none => rw [hq101] at h; cases h
  | some v102 =>
    rw [hq101, mjBp_some] at h
    refine pG_callV (k2 := 240) (As := [.ref 211, .int p0]) (rest := []) rfl rfl rfl rfl rfl (by rfl) (by decide) (f240_isTeam_ok hq101) ?_
    rintro r9 M9 ⟨rfl, rfl⟩
    show pG 261 5 [some (.ref 211), some (.int p0), none, none, none, none, none, none] [.int v102] (mjTo Z) _
    by_cases hc104 : mjCmp .ne v102 0 = true
    · rw [if_pos hc104] at h
      refine pG_ift (t := 10) rfl rfl hc104 ?_
      refine pG_many 1 (pc1 := 11) (L1 := [some (.ref 211), some (.int p0), none, none, none, none, none, none]) (st1 := [.ref 211]) (M1 := mjTo Z) rfl ?_
      refine pG_getI (ci := 12) (f := 39) rfl rfl (Or.inl rfl) (by rfl) ?_
      refine pG_many 1 (pc1 := 15) (L1 := [some (.ref 211), some (.int p0), none, none, none, none, none, none]) (st1 := [.int 1, .int (Z.1 211 39)]) (M1 := mjTo Z) rfl ?_
      by_cases hc105 : mjCmp .ne (Z.1 211 39) 1 = true
      · rw [if_pos hc105] at h
        refine pG_cmt (t := 21) rfl rfl hc105 ?_
        refine pG_many 6 (pc1 := 28) (L1 := [some (.ref 211), some (.int p0), some (.int 0), some (.int ((-1))), some (.int 0), none, none, none]) (st1 := []) (M1 := mjTo Z) rfl ?_
        exact f261_boldest_h28_ok mjF p0 0 ((-1)) 0 none none none Z v9 h
      · rw [if_neg hc105] at h
        refine pG_cmf (t := 21) rfl rfl hc105 ?_
        refine pG_many 1 (pc1 := 20) (L1 := [some (.ref 211), some (.int p0), none, none, none, none, none, none]) (st1 := [.int ((-2))]) (M1 := mjTo Z) rfl ?_
        simp only [Option.some.injEq] at h
        subst h
        exact pG_ret (r := some (.int ((-2)))) rfl ⟨rfl, rfl⟩
    · rw [if_neg hc104] at h
      refine pG_iff (t := 10) rfl rfl hc104 ?_
      refine pG_many 1 (pc1 := 9) (L1 := [some (.ref 211), some (.int p0), none, none, none, none, none, none]) (st1 := [.int ((-1))]) (M1 := mjTo Z) rfl ?_
      simp only [Option.some.injEq] at h
      subst h
      exact pG_ret (r := some (.int ((-1)))) rfl ⟨rfl, rfl⟩
