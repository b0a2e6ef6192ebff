def f205_goOn_j214 (x1 : Int32) (s1 : Int32) (Z : mjZt) : Option (Unit × mjZt) :=
  mjLet (zSi Z 211 7 s1) fun Z129 =>
  mjLet (zSi Z129 211 8 x1) fun Z130 =>
  mjLet (zSi Z130 211 5 ((Z130.1 211 5) + 1)) fun Z131 =>
  some ((), Z131)
theorem f205_goOn_j214_ok (x1 : Int32) (s1 : Int32) (d2 : Option Value) (Z : mjZt) (v9 : Unit) (Z9 : mjZt) (h : f205_goOn_j214 x1 s1 Z = some (v9, Z9)) : pG 205 214 [some (.ref 211), some (.int x1), d2] [.int s1, .ref 211] (mjTo Z) (fun r M1 => r = none ∧ M1 = mjTo Z9) := by
  unfold f205_goOn_j214 at h
  refine pG_putI (ci := 12) (f := 7) rfl rfl rfl rfl (by rfl) ?_
  rw [mjLet] at h
  generalize zSi Z 211 7 s1 = Z129 at h ⊢
  refine pG_many 2 (pc1 := 219) (L1 := [some (.ref 211), some (.int x1), d2]) (st1 := [.int x1, .ref 211]) (M1 := mjTo Z129) rfl ?_
  refine pG_putI (ci := 12) (f := 8) rfl rfl rfl rfl (by rfl) ?_
  rw [mjLet] at h
  generalize zSi Z129 211 8 x1 = Z130 at h ⊢
  refine pG_many 4 (pc1 := 226) (L1 := [some (.ref 211), some (.int x1), some (.int 1)]) (st1 := [.ref 211, .ref 211]) (M1 := mjTo Z130) rfl ?_
  refine pG_getI (ci := 12) (f := 5) rfl rfl (Or.inl rfl) (by rfl) ?_
  refine pG_many 2 (pc1 := 231) (L1 := [some (.ref 211), some (.int x1), some (.int 1)]) (st1 := [.int ((Z130.1 211 5) + 1), .ref 211]) (M1 := mjTo Z130) rfl ?_
  refine pG_putI (ci := 12) (f := 5) rfl rfl rfl rfl (by rfl) ?_
  rw [mjLet] at h
  generalize zSi Z130 211 5 ((Z130.1 211 5) + 1) = Z131 at h ⊢
  simp only [Option.some.injEq, Prod.mk.injEq] at h
  obtain ⟨-, rfl⟩ := h
  exact pG_ret (r := none) rfl ⟨rfl, rfl⟩
def f205_goOn_j195 (x2 : Int32) (s1 : Int32) (Z : mjZt) : Option (Unit × mjZt) :=
  mjLet (zSi Z 211 7 s1) fun Z140 =>
  mjLet (zSi Z140 211 5 ((Z140.1 211 5) + x2)) fun Z141 =>
  some ((), Z141)
theorem f205_goOn_j195_ok (x2 : Int32) (s1 : Int32) (d1 : Option Value) (Z : mjZt) (v9 : Unit) (Z9 : mjZt) (h : f205_goOn_j195 x2 s1 Z = some (v9, Z9)) : pG 205 195 [some (.ref 211), d1, some (.int x2)] [.int s1, .ref 211] (mjTo Z) (fun r M1 => r = none ∧ M1 = mjTo Z9) := by
  unfold f205_goOn_j195 at h
  refine pG_putI (ci := 12) (f := 7) rfl rfl rfl rfl (by rfl) ?_
  rw [mjLet] at h
  generalize zSi Z 211 7 s1 = Z140 at h ⊢
  refine pG_many 3 (pc1 := 226) (L1 := [some (.ref 211), d1, some (.int x2)]) (st1 := [.ref 211, .ref 211]) (M1 := mjTo Z140) rfl ?_
  refine pG_getI (ci := 12) (f := 5) rfl rfl (Or.inl rfl) (by rfl) ?_
  refine pG_many 2 (pc1 := 231) (L1 := [some (.ref 211), d1, some (.int x2)]) (st1 := [.int ((Z140.1 211 5) + x2), .ref 211]) (M1 := mjTo Z140) rfl ?_
  refine pG_putI (ci := 12) (f := 5) rfl rfl rfl rfl (by rfl) ?_
  rw [mjLet] at h
  generalize zSi Z140 211 5 ((Z140.1 211 5) + x2) = Z141 at h ⊢
  simp only [Option.some.injEq, Prod.mk.injEq] at h
  obtain ⟨-, rfl⟩ := h
  exact pG_ret (r := none) rfl ⟨rfl, rfl⟩
def f205_goOn_h142 : Nat → Int32 → mjZt → Option (Unit × mjZt)
  | 0, _, _ => none
  | n + 1, x2, Z =>
    mjBp (f201_here x2 Z) fun v133 =>
    mjBp (f203_isDigit v133 Z) fun v136 =>
    if mjCmp .eq v136 0 = true then
      if mjCmp .le x2 4 = true then
        f205_goOn_j195 x2 2 Z
      else
        f205_goOn_j195 x2 4 Z
    else
      if mjCmp .ge x2 4 = true then
        f205_goOn_h142 n (x2 + 1) Z
      else
        mjLet (zSi Z 211 8 (((10 * (Z.1 211 8)) + v133) - 48)) fun Z146 =>
        f205_goOn_h142 n (x2 + 1) Z146
theorem f205_goOn_h142_ok : ∀ (n : Nat) (x2 : Int32) (d1 : Option Value) (Z : mjZt) (v9 : Unit) (Z9 : mjZt), f205_goOn_h142 n x2 Z = some (v9, Z9) → pG 205 142 [some (.ref 211), d1, some (.int x2)] [] (mjTo Z) (fun r M1 => r = none ∧ M1 = mjTo Z9)
  | 0, x2, d1, Z, v9, Z9, h => by rw [f205_goOn_h142] at h; cases h
  | n + 1, x2, d1, Z, v9, Z9, h => by
      rw [f205_goOn_h142] at h
      refine pG_many 2 (pc1 := 144) (L1 := [some (.ref 211), d1, some (.int x2)]) (st1 := [.int x2, .ref 211]) (M1 := mjTo Z) rfl ?_
      cases hq132 : f201_here x2 Z with
      | none => rw [hq132] at h; cases h
      | some v133 =>
        rw [hq132, mjBp_some] at h
        refine pG_callV (k2 := 201) (As := [.ref 211, .int x2]) (rest := []) rfl rfl rfl rfl rfl (by rfl) (by decide) (f201_here_ok hq132) ?_
        rintro r9 M9 ⟨rfl, rfl⟩
        show pG 205 147 [some (.ref 211), d1, some (.int x2)] [.int v133] (mjTo Z) _
        cases hq135 : f203_isDigit v133 Z with
        | none => rw [hq135] at h; cases h
        | some v136 =>
          rw [hq135, mjBp_some] at h
          refine pG_call (k2 := 203) (As := [.int v133]) (rest := []) rfl (by decide) (f203_isDigit_ok hq135) ?_
          rintro r9 M9 ⟨rfl, rfl⟩
          show pG 205 150 [some (.ref 211), d1, some (.int x2)] [.int v136] (mjTo Z) _
          by_cases hc138 : mjCmp .eq v136 0 = true
          · rw [if_pos hc138] at h
            refine pG_ift (t := 184) rfl rfl hc138 ?_
            refine pG_many 3 (pc1 := 187) (L1 := [some (.ref 211), d1, some (.int x2)]) (st1 := [.int 4, .int x2, .ref 211]) (M1 := mjTo Z) rfl ?_
            by_cases hc139 : mjCmp .le x2 4 = true
            · rw [if_pos hc139] at h
              refine pG_cmt (t := 194) rfl rfl hc139 ?_
              refine pG_many 1 (pc1 := 195) (L1 := [some (.ref 211), d1, some (.int x2)]) (st1 := [.int 2, .ref 211]) (M1 := mjTo Z) rfl ?_
              exact f205_goOn_j195_ok x2 2 d1 Z v9 Z9 h
            · rw [if_neg hc139] at h
              refine pG_cmf (t := 194) rfl rfl hc139 ?_
              refine pG_many 2 (pc1 := 195) (L1 := [some (.ref 211), d1, some (.int x2)]) (st1 := [.int 4, .ref 211]) (M1 := mjTo Z) rfl ?_
              exact f205_goOn_j195_ok x2 4 d1 Z v9 Z9 h
          · rw [if_neg hc138] at h
            refine pG_iff (t := 184) rfl rfl hc138 ?_
            refine pG_many 2 (pc1 := 155) (L1 := [some (.ref 211), d1, some (.int x2)]) (st1 := [.int 4, .int x2]) (M1 := mjTo Z) rfl ?_
            by_cases hc142 : mjCmp .ge x2 4 = true
            · rw [if_pos hc142] at h
              refine pG_cmt (t := 178) rfl rfl hc142 ?_
              refine pG_many 2 (pc1 := 142) (L1 := [some (.ref 211), (mjK1 d1), some (.int (x2 + 1))]) (st1 := []) (M1 := mjTo Z) rfl ?_
              exact f205_goOn_h142_ok n (x2 + 1) ((mjK1 d1)) Z v9 Z9 h
            · rw [if_neg hc142] at h
              refine pG_cmf (t := 178) rfl rfl hc142 ?_
              refine pG_many 3 (pc1 := 162) (L1 := [some (.ref 211), d1, some (.int x2)]) (st1 := [.ref 211, .int 10, .ref 211]) (M1 := mjTo Z) rfl ?_
              refine pG_getI (ci := 12) (f := 8) rfl rfl (Or.inl rfl) (by rfl) ?_
              refine pG_many 3 (pc1 := 168) (L1 := [some (.ref 211), d1, some (.int x2)]) (st1 := [.int x2, .ref 211, .int (10 * (Z.1 211 8)), .ref 211]) (M1 := mjTo Z) rfl ?_
              refine pG_callV (k2 := 201) (As := [.ref 211, .int x2]) (rest := [.int (10 * (Z.1 211 8)), .ref 211]) rfl rfl rfl rfl rfl (by rfl) (by decide) (f201_here_ok hq132) ?_
              rintro r9 M9 ⟨rfl, rfl⟩
              show pG 205 171 [some (.ref 211), d1, some (.int x2)] [.int v133, .int (10 * (Z.1 211 8)), .ref 211] (mjTo Z) _
              refine pG_many 3 (pc1 := 175) (L1 := [some (.ref 211), d1, some (.int x2)]) (st1 := [.int (((10 * (Z.1 211 8)) + v133) - 48), .ref 211]) (M1 := mjTo Z) rfl ?_
              refine pG_putI (ci := 12) (f := 8) rfl rfl rfl rfl (by rfl) ?_
              rw [mjLet] at h
              generalize zSi Z 211 8 (((10 * (Z.1 211 8)) + v133) - 48) = Z146 at h ⊢
              refine pG_many 2 (pc1 := 142) (L1 := [some (.ref 211), (mjK1 d1), some (.int (x2 + 1))]) (st1 := []) (M1 := mjTo Z146) rfl ?_
              exact f205_goOn_h142_ok n (x2 + 1) ((mjK1 d1)) Z146 v9 Z9 h
def f205_goOn_j129 (x2 : Int32) (s1 : Int32) (Z : mjZt) : Option (Unit × mjZt) :=
  mjLet (zSi Z 211 7 s1) fun Z155 =>
  mjLet (zSi Z155 211 5 ((Z155.1 211 5) + x2)) fun Z156 =>
  some ((), Z156)
theorem f205_goOn_j129_ok (x2 : Int32) (s1 : Int32) (d1 : Option Value) (Z : mjZt) (v9 : Unit) (Z9 : mjZt) (h : f205_goOn_j129 x2 s1 Z = some (v9, Z9)) : pG 205 129 [some (.ref 211), d1, some (.int x2)] [.int s1, .ref 211] (mjTo Z) (fun r M1 => r = none ∧ M1 = mjTo Z9) := by
  unfold f205_goOn_j129 at h
  refine pG_putI (ci := 12) (f := 7) rfl rfl rfl rfl (by rfl) ?_
  rw [mjLet] at h
  generalize zSi Z 211 7 s1 = Z155 at h ⊢
  refine pG_many 3 (pc1 := 226) (L1 := [some (.ref 211), d1, some (.int x2)]) (st1 := [.ref 211, .ref 211]) (M1 := mjTo Z155) rfl ?_
  refine pG_getI (ci := 12) (f := 5) rfl rfl (Or.inl rfl) (by rfl) ?_
  refine pG_many 2 (pc1 := 231) (L1 := [some (.ref 211), d1, some (.int x2)]) (st1 := [.int ((Z155.1 211 5) + x2), .ref 211]) (M1 := mjTo Z155) rfl ?_
  refine pG_putI (ci := 12) (f := 5) rfl rfl rfl rfl (by rfl) ?_
  rw [mjLet] at h
  generalize zSi Z155 211 5 ((Z155.1 211 5) + x2) = Z156 at h ⊢
  simp only [Option.some.injEq, Prod.mk.injEq] at h
  obtain ⟨-, rfl⟩ := h
  exact pG_ret (r := none) rfl ⟨rfl, rfl⟩
def f205_goOn_h76 : Nat → Int32 → mjZt → Option (Unit × mjZt)
  | 0, _, _ => none
  | n + 1, x2, Z =>
    mjBp (f201_here x2 Z) fun v148 =>
    mjBp (f202_isLetter v148 Z) fun v151 =>
    if mjCmp .eq v151 0 = true then
      if mjCmp .le x2 8 = true then
        f205_goOn_j129 x2 1 Z
      else
        f205_goOn_j129 x2 4 Z
    else
      if mjCmp .ge x2 8 = true then
        f205_goOn_h76 n (x2 + 1) Z
      else
        mjLet (zSl Z 211 13 (((Z.2.1 211 13) <<< (Int32.toInt64 8 &&& 63)) ||| (Int32.toInt64 v148))) fun Z161 =>
        f205_goOn_h76 n (x2 + 1) Z161
theorem f205_goOn_h76_ok : ∀ (n : Nat) (x2 : Int32) (d1 : Option Value) (Z : mjZt) (v9 : Unit) (Z9 : mjZt), f205_goOn_h76 n x2 Z = some (v9, Z9) → pG 205 76 [some (.ref 211), d1, some (.int x2)] [] (mjTo Z) (fun r M1 => r = none ∧ M1 = mjTo Z9)
  | 0, x2, d1, Z, v9, Z9, h => by rw [f205_goOn_h76] at h; cases h
  | n + 1, x2, d1, Z, v9, Z9, h => by
      rw [f205_goOn_h76] at h
      refine pG_many 2 (pc1 := 78) (L1 := [some (.ref 211), d1, some (.int x2)]) (st1 := [.int x2, .ref 211]) (M1 := mjTo Z) rfl ?_
      cases hq147 : f201_here x2 Z with
      | none => rw [hq147] at h; cases h
      | some v148 =>
        rw [hq147, mjBp_some] at h
        refine pG_callV (k2 := 201) (As := [.ref 211, .int x2]) (rest := []) rfl rfl rfl rfl rfl (by rfl) (by decide) (f201_here_ok hq147) ?_
        rintro r9 M9 ⟨rfl, rfl⟩
        show pG 205 81 [some (.ref 211), d1, some (.int x2)] [.int v148] (mjTo Z) _
        cases hq150 : f202_isLetter v148 Z with
        | none => rw [hq150] at h; cases h
        | some v151 =>
          rw [hq150, mjBp_some] at h
          refine pG_call (k2 := 202) (As := [.int v148]) (rest := []) rfl (by decide) (f202_isLetter_ok hq150) ?_
          rintro r9 M9 ⟨rfl, rfl⟩
          show pG 205 84 [some (.ref 211), d1, some (.int x2)] [.int v151] (mjTo Z) _
          by_cases hc153 : mjCmp .eq v151 0 = true
          · rw [if_pos hc153] at h
            refine pG_ift (t := 117) rfl rfl hc153 ?_
            refine pG_many 3 (pc1 := 121) (L1 := [some (.ref 211), d1, some (.int x2)]) (st1 := [.int 8, .int x2, .ref 211]) (M1 := mjTo Z) rfl ?_
            by_cases hc154 : mjCmp .le x2 8 = true
            · rw [if_pos hc154] at h
              refine pG_cmt (t := 128) rfl rfl hc154 ?_
              refine pG_many 1 (pc1 := 129) (L1 := [some (.ref 211), d1, some (.int x2)]) (st1 := [.int 1, .ref 211]) (M1 := mjTo Z) rfl ?_
              exact f205_goOn_j129_ok x2 1 d1 Z v9 Z9 h
            · rw [if_neg hc154] at h
              refine pG_cmf (t := 128) rfl rfl hc154 ?_
              refine pG_many 2 (pc1 := 129) (L1 := [some (.ref 211), d1, some (.int x2)]) (st1 := [.int 4, .ref 211]) (M1 := mjTo Z) rfl ?_
              exact f205_goOn_j129_ok x2 4 d1 Z v9 Z9 h
          · rw [if_neg hc153] at h
            refine pG_iff (t := 117) rfl rfl hc153 ?_
            refine pG_many 2 (pc1 := 90) (L1 := [some (.ref 211), d1, some (.int x2)]) (st1 := [.int 8, .int x2]) (M1 := mjTo Z) rfl ?_
            by_cases hc157 : mjCmp .ge x2 8 = true
            · rw [if_pos hc157] at h
              refine pG_cmt (t := 111) rfl rfl hc157 ?_
              refine pG_many 2 (pc1 := 76) (L1 := [some (.ref 211), (mjK1 d1), some (.int (x2 + 1))]) (st1 := []) (M1 := mjTo Z) rfl ?_
              exact f205_goOn_h76_ok n (x2 + 1) ((mjK1 d1)) Z v9 Z9 h
            · rw [if_neg hc157] at h
              refine pG_cmf (t := 111) rfl rfl hc157 ?_
              refine pG_many 2 (pc1 := 95) (L1 := [some (.ref 211), d1, some (.int x2)]) (st1 := [.ref 211, .ref 211]) (M1 := mjTo Z) rfl ?_
              refine pG_getL (ci := 12) (f := 13) rfl rfl rfl (by rfl) ?_
              refine pG_many 4 (pc1 := 103) (L1 := [some (.ref 211), d1, some (.int x2)]) (st1 := [.int x2, .ref 211, .long ((Z.2.1 211 13) <<< (Int32.toInt64 8 &&& 63)), .ref 211]) (M1 := mjTo Z) rfl ?_
              refine pG_callV (k2 := 201) (As := [.ref 211, .int x2]) (rest := [.long ((Z.2.1 211 13) <<< (Int32.toInt64 8 &&& 63)), .ref 211]) rfl rfl rfl rfl rfl (by rfl) (by decide) (f201_here_ok hq147) ?_
              rintro r9 M9 ⟨rfl, rfl⟩
              show pG 205 106 [some (.ref 211), d1, some (.int x2)] [.int v148, .long ((Z.2.1 211 13) <<< (Int32.toInt64 8 &&& 63)), .ref 211] (mjTo Z) _
              refine pG_many 2 (pc1 := 108) (L1 := [some (.ref 211), d1, some (.int x2)]) (st1 := [.long (((Z.2.1 211 13) <<< (Int32.toInt64 8 &&& 63)) ||| (Int32.toInt64 v148)), .ref 211]) (M1 := mjTo Z) rfl ?_
              refine pG_putL (ci := 12) (f := 13) rfl rfl rfl rfl (by rfl) ?_
              rw [mjLet] at h
              generalize zSl Z 211 13 (((Z.2.1 211 13) <<< (Int32.toInt64 8 &&& 63)) ||| (Int32.toInt64 v148)) = Z161 at h ⊢
              refine pG_many 2 (pc1 := 76) (L1 := [some (.ref 211), (mjK1 d1), some (.int (x2 + 1))]) (st1 := []) (M1 := mjTo Z161) rfl ?_
              exact f205_goOn_h76_ok n (x2 + 1) ((mjK1 d1)) Z161 v9 Z9 h
def f205_goOn_h0 : Nat → mjZt → Option (Unit × mjZt)
  | 0, _ => none
  | n + 1, Z =>
    mjBp (f201_here 0 Z) fun v102 =>
    if mjCmp .eq v102 32 = true then
      mjLet (zSi Z 211 5 ((Z.1 211 5) + 1)) fun Z105 =>
      f205_goOn_h0 n  Z105
    else
      if mjCmp .ne v102 10 = true then
        mjLet (zSi Z 211 6 (Z.1 211 5)) fun Z110 =>
        mjLet (zSl Z110 211 13 0) fun Z111 =>
        mjLet (zSi Z111 211 8 0) fun Z112 =>
        mjBp (f201_here 0 Z112) fun v114 =>
        if mjCmp .ge v114 0 = true then
          mjBp (f202_isLetter v114 Z112) fun v118 =>
          if mjCmp .eq v118 0 = true then
            mjBp (f203_isDigit v114 Z112) fun v122 =>
            if mjCmp .eq v122 0 = true then
              mjBp (f204_isSign v114 Z112) fun v126 =>
              if mjCmp .eq v126 0 = true then
                f205_goOn_j214 v114 4 Z112
              else
                f205_goOn_j214 v114 3 Z112
            else
              f205_goOn_h142 mjF 0 Z112
          else
            f205_goOn_h76 mjF 0 Z112
        else
          mjLet (zSi Z112 211 7 0) fun Z162 =>
          some ((), Z162)
      else
        mjLet (zSi Z 211 5 ((Z.1 211 5) + 1)) fun Z163 =>
        f205_goOn_h0 n  Z163
theorem f205_goOn_h0_ok : ∀ (n : Nat)  (d1 d2 : Option Value) (Z : mjZt) (v9 : Unit) (Z9 : mjZt), f205_goOn_h0 n  Z = some (v9, Z9) → pG 205 0 [some (.ref 211), d1, d2] [] (mjTo Z) (fun r M1 => r = none ∧ M1 = mjTo Z9)
  | 0, d1, d2, Z, v9, Z9, h => by rw [f205_goOn_h0] at h; cases h
  | n + 1, d1, d2, Z, v9, Z9, h => by
      rw [f205_goOn_h0] at h
      refine pG_many 2 (pc1 := 2) (L1 := [some (.ref 211), d1, d2]) (st1 := [.int 0, .ref 211]) (M1 := mjTo Z) rfl ?_
      cases hq101 : f201_here 0 Z with
      | none => rw [hq101] at h; cases h
      | some v102 =>
        rw [hq101, mjBp_some] at h
        refine pG_callV (k2 := 201) (As := [.ref 211, .int 0]) (rest := []) rfl rfl rfl rfl rfl (by rfl) (by decide) (f201_here_ok hq101) ?_
        rintro r9 M9 ⟨rfl, rfl⟩
        show pG 205 5 [some (.ref 211), d1, d2] [.int v102] (mjTo Z) _
        refine pG_many 1 (pc1 := 7) (L1 := [some (.ref 211), d1, d2]) (st1 := [.int 32, .int v102]) (M1 := mjTo Z) rfl ?_
        by_cases hc104 : mjCmp .eq v102 32 = true
        · rw [if_pos hc104] at h
          refine pG_cmt (t := 20) rfl rfl hc104 ?_
          refine pG_many 2 (pc1 := 22) (L1 := [some (.ref 211), d1, d2]) (st1 := [.ref 211, .ref 211]) (M1 := mjTo Z) rfl ?_
          refine pG_getI (ci := 12) (f := 5) rfl rfl (Or.inl rfl) (by rfl) ?_
          refine pG_many 2 (pc1 := 27) (L1 := [some (.ref 211), d1, d2]) (st1 := [.int ((Z.1 211 5) + 1), .ref 211]) (M1 := mjTo Z) rfl ?_
          refine pG_putI (ci := 12) (f := 5) rfl rfl rfl rfl (by rfl) ?_
          rw [mjLet] at h
          generalize zSi Z 211 5 ((Z.1 211 5) + 1) = Z105 at h ⊢
          refine pG_many 1 (pc1 := 0) (L1 := [some (.ref 211), d1, d2]) (st1 := []) (M1 := mjTo Z105) rfl ?_
          exact f205_goOn_h0_ok n d1 d2 Z105 v9 Z9 h
        · rw [if_neg hc104] at h
          refine pG_cmf (t := 20) rfl rfl hc104 ?_
          refine pG_many 2 (pc1 := 12) (L1 := [some (.ref 211), d1, d2]) (st1 := [.int 0, .ref 211]) (M1 := mjTo Z) rfl ?_
          refine pG_callV (k2 := 201) (As := [.ref 211, .int 0]) (rest := []) rfl rfl rfl rfl rfl (by rfl) (by decide) (f201_here_ok hq101) ?_
          rintro r9 M9 ⟨rfl, rfl⟩
          show pG 205 15 [some (.ref 211), d1, d2] [.int v102] (mjTo Z) _
          refine pG_many 1 (pc1 := 17) (L1 := [some (.ref 211), d1, d2]) (st1 := [.int 10, .int v102]) (M1 := mjTo Z) rfl ?_
          by_cases hc109 : mjCmp .ne v102 10 = true
          · rw [if_pos hc109] at h
            refine pG_cmt (t := 33) rfl rfl hc109 ?_
            refine pG_many 2 (pc1 := 35) (L1 := [some (.ref 211), d1, d2]) (st1 := [.ref 211, .ref 211]) (M1 := mjTo Z) rfl ?_
            refine pG_getI (ci := 12) (f := 5) rfl rfl (Or.inl rfl) (by rfl) ?_
            refine pG_putI (ci := 12) (f := 6) rfl rfl rfl rfl (by rfl) ?_
            rw [mjLet] at h
            generalize zSi Z 211 6 (Z.1 211 5) = Z110 at h ⊢
            refine pG_many 2 (pc1 := 43) (L1 := [some (.ref 211), d1, d2]) (st1 := [.long 0, .ref 211]) (M1 := mjTo Z110) rfl ?_
            refine pG_putL (ci := 12) (f := 13) rfl rfl rfl rfl (by rfl) ?_
            rw [mjLet] at h
            generalize zSl Z110 211 13 0 = Z111 at h ⊢
            refine pG_many 2 (pc1 := 48) (L1 := [some (.ref 211), d1, d2]) (st1 := [.int 0, .ref 211]) (M1 := mjTo Z111) rfl ?_
            refine pG_putI (ci := 12) (f := 8) rfl rfl rfl rfl (by rfl) ?_
            rw [mjLet] at h
            generalize zSi Z111 211 8 0 = Z112 at h ⊢
            refine pG_many 2 (pc1 := 53) (L1 := [some (.ref 211), d1, d2]) (st1 := [.int 0, .ref 211]) (M1 := mjTo Z112) rfl ?_
            cases hq113 : f201_here 0 Z112 with
            | none => rw [hq113] at h; cases h
            | some v114 =>
              rw [hq113, mjBp_some] at h
              refine pG_callV (k2 := 201) (As := [.ref 211, .int 0]) (rest := []) rfl rfl rfl rfl rfl (by rfl) (by decide) (f201_here_ok hq113) ?_
              rintro r9 M9 ⟨rfl, rfl⟩
              show pG 205 56 [some (.ref 211), d1, d2] [.int v114] (mjTo Z112) _
              refine pG_many 4 (pc1 := 60) (L1 := [some (.ref 211), some (.int v114), some (.int 0)]) (st1 := [.int v114]) (M1 := mjTo Z112) rfl ?_
              by_cases hc116 : mjCmp .ge v114 0 = true
              · rw [if_pos hc116] at h
                refine pG_ift (t := 69) rfl rfl hc116 ?_
                refine pG_many 1 (pc1 := 70) (L1 := [some (.ref 211), some (.int v114), some (.int 0)]) (st1 := [.int v114]) (M1 := mjTo Z112) rfl ?_
                cases hq117 : f202_isLetter v114 Z112 with
                | none => rw [hq117] at h; cases h
                | some v118 =>
                  rw [hq117, mjBp_some] at h
                  refine pG_call (k2 := 202) (As := [.int v114]) (rest := []) rfl (by decide) (f202_isLetter_ok hq117) ?_
                  rintro r9 M9 ⟨rfl, rfl⟩
                  show pG 205 73 [some (.ref 211), some (.int v114), some (.int 0)] [.int v118] (mjTo Z112) _
                  by_cases hc120 : mjCmp .eq v118 0 = true
                  · rw [if_pos hc120] at h
                    refine pG_ift (t := 135) rfl rfl hc120 ?_
                    refine pG_many 1 (pc1 := 136) (L1 := [some (.ref 211), some (.int v114), some (.int 0)]) (st1 := [.int v114]) (M1 := mjTo Z112) rfl ?_
                    cases hq121 : f203_isDigit v114 Z112 with
                    | none => rw [hq121] at h; cases h
                    | some v122 =>
                      rw [hq121, mjBp_some] at h
                      refine pG_call (k2 := 203) (As := [.int v114]) (rest := []) rfl (by decide) (f203_isDigit_ok hq121) ?_
                      rintro r9 M9 ⟨rfl, rfl⟩
                      show pG 205 139 [some (.ref 211), some (.int v114), some (.int 0)] [.int v122] (mjTo Z112) _
                      by_cases hc124 : mjCmp .eq v122 0 = true
                      · rw [if_pos hc124] at h
                        refine pG_ift (t := 201) rfl rfl hc124 ?_
                        refine pG_many 2 (pc1 := 203) (L1 := [some (.ref 211), some (.int v114), some (.int 0)]) (st1 := [.int v114, .ref 211]) (M1 := mjTo Z112) rfl ?_
                        cases hq125 : f204_isSign v114 Z112 with
                        | none => rw [hq125] at h; cases h
                        | some v126 =>
                          rw [hq125, mjBp_some] at h
                          refine pG_call (k2 := 204) (As := [.int v114]) (rest := [.ref 211]) rfl (by decide) (f204_isSign_ok hq125) ?_
                          rintro r9 M9 ⟨rfl, rfl⟩
                          show pG 205 206 [some (.ref 211), some (.int v114), some (.int 0)] [.int v126, .ref 211] (mjTo Z112) _
                          by_cases hc128 : mjCmp .eq v126 0 = true
                          · rw [if_pos hc128] at h
                            refine pG_ift (t := 213) rfl rfl hc128 ?_
                            refine pG_many 1 (pc1 := 214) (L1 := [some (.ref 211), some (.int v114), some (.int 0)]) (st1 := [.int 4, .ref 211]) (M1 := mjTo Z112) rfl ?_
                            exact f205_goOn_j214_ok v114 4 (some (.int 0)) Z112 v9 Z9 h
                          · rw [if_neg hc128] at h
                            refine pG_iff (t := 213) rfl rfl hc128 ?_
                            refine pG_many 2 (pc1 := 214) (L1 := [some (.ref 211), some (.int v114), some (.int 0)]) (st1 := [.int 3, .ref 211]) (M1 := mjTo Z112) rfl ?_
                            exact f205_goOn_j214_ok v114 3 (some (.int 0)) Z112 v9 Z9 h
                      · rw [if_neg hc124] at h
                        refine pG_iff (t := 201) rfl rfl hc124 ?_
                        exact f205_goOn_h142_ok mjF 0 (some (.int v114)) Z112 v9 Z9 h
                  · rw [if_neg hc120] at h
                    refine pG_iff (t := 135) rfl rfl hc120 ?_
                    exact f205_goOn_h76_ok mjF 0 (some (.int v114)) Z112 v9 Z9 h
              · rw [if_neg hc116] at h
                refine pG_iff (t := 69) rfl rfl hc116 ?_
                refine pG_many 2 (pc1 := 65) (L1 := [some (.ref 211), some (.int v114), some (.int 0)]) (st1 := [.int 0, .ref 211]) (M1 := mjTo Z112) rfl ?_
                refine pG_putI (ci := 12) (f := 7) rfl rfl rfl rfl (by rfl) ?_
                rw [mjLet] at h
                generalize zSi Z112 211 7 0 = Z162 at h ⊢
                simp only [Option.some.injEq, Prod.mk.injEq] at h
                obtain ⟨-, rfl⟩ := h
                exact pG_ret (r := none) rfl ⟨rfl, rfl⟩
          · rw [if_neg hc109] at h
            refine pG_cmf (t := 33) rfl rfl hc109 ?_
            refine pG_many 2 (pc1 := 22) (L1 := [some (.ref 211), d1, d2]) (st1 := [.ref 211, .ref 211]) (M1 := mjTo Z) rfl ?_
            refine pG_getI (ci := 12) (f := 5) rfl rfl (Or.inl rfl) (by rfl) ?_
            refine pG_many 2 (pc1 := 27) (L1 := [some (.ref 211), d1, d2]) (st1 := [.int ((Z.1 211 5) + 1), .ref 211]) (M1 := mjTo Z) rfl ?_
            refine pG_putI (ci := 12) (f := 5) rfl rfl rfl rfl (by rfl) ?_
            rw [mjLet] at h
            generalize zSi Z 211 5 ((Z.1 211 5) + 1) = Z163 at h ⊢
            refine pG_many 1 (pc1 := 0) (L1 := [some (.ref 211), d1, d2]) (st1 := []) (M1 := mjTo Z163) rfl ?_
            exact f205_goOn_h0_ok n d1 d2 Z163 v9 Z9 h
def f205_goOn  (Z : mjZt) : Option (Unit × mjZt) :=
  f205_goOn_h0 mjF  Z
theorem f205_goOn_ok  {Z : mjZt} {v9 : Unit} {Z9 : mjZt} (h : f205_goOn  Z = some (v9, Z9)) : pG 205 0 (mjEnt [.ref 211] (mjML 205)) [] (mjTo Z) (fun r M1 => r = none ∧ M1 = mjTo Z9) := by
  unfold f205_goOn at h
  show pG 205 0 [some (.ref 211), none, none] [] (mjTo Z) _
  exact f205_goOn_h0_ok mjF none none Z v9 Z9 h
def f206_wrong (p0 : Int32) (Z : mjZt) : Option (Unit × mjZt) :=
  if mjCmp .le (Z.1 211 9) 0 = true then
    if mjCmp .ne (Z.1 211 7) 4 = true then
      mjLet (zSi Z 211 9 p0) fun Z103 =>
      mjLet (zSi Z103 211 10 (Z103.1 211 6)) fun Z104 =>
      some ((), Z104)
    else
      mjLet (zSi Z 211 9 1) fun Z105 =>
      mjLet (zSi Z105 211 10 (Z105.1 211 6)) fun Z106 =>
      some ((), Z106)
  else
    some ((), Z)
theorem f206_wrong_ok {p0 : Int32} {Z : mjZt} {v9 : Unit} {Z9 : mjZt} (h : f206_wrong p0 Z = some (v9, Z9)) : pG 206 0 (mjEnt [.ref 211, .int p0] (mjML 206)) [] (mjTo Z) (fun r M1 => r = none ∧ M1 = mjTo Z9) := by
  unfold f206_wrong at h
  show pG 206 0 [some (.ref 211), some (.int p0)] [] (mjTo Z) _
  refine pG_many 1 (pc1 := 1) (L1 := [some (.ref 211), some (.int p0)]) (st1 := [.ref 211]) (M1 := mjTo Z) rfl ?_
  refine pG_getI (ci := 12) (f := 9) rfl rfl (Or.inl rfl) (by rfl) ?_
  by_cases hc101 : mjCmp .le (Z.1 211 9) 0 = true
  · rw [if_pos hc101] at h
    refine pG_ift (t := 8) rfl rfl hc101 ?_
    refine pG_many 2 (pc1 := 10) (L1 := [some (.ref 211), some (.int p0)]) (st1 := [.ref 211, .ref 211]) (M1 := mjTo Z) rfl ?_
    refine pG_getI (ci := 12) (f := 7) rfl rfl (Or.inl rfl) (by rfl) ?_
    refine pG_many 1 (pc1 := 14) (L1 := [some (.ref 211), some (.int p0)]) (st1 := [.int 4, .int (Z.1 211 7), .ref 211]) (M1 := mjTo Z) rfl ?_
    by_cases hc102 : mjCmp .ne (Z.1 211 7) 4 = true
    · rw [if_pos hc102] at h
      refine pG_cmt (t := 21) rfl rfl hc102 ?_
      refine pG_many 1 (pc1 := 22) (L1 := [some (.ref 211), some (.int p0)]) (st1 := [.int p0, .ref 211]) (M1 := mjTo Z) rfl ?_
      refine pG_putI (ci := 12) (f := 9) rfl rfl rfl rfl (by rfl) ?_
      rw [mjLet] at h
      generalize zSi Z 211 9 p0 = Z103 at h ⊢
      refine pG_many 2 (pc1 := 27) (L1 := [some (.ref 211), some (.int p0)]) (st1 := [.ref 211, .ref 211]) (M1 := mjTo Z103) rfl ?_
      refine pG_getI (ci := 12) (f := 6) rfl rfl (Or.inl rfl) (by rfl) ?_
      refine pG_putI (ci := 12) (f := 10) rfl rfl rfl rfl (by rfl) ?_
      rw [mjLet] at h
      generalize zSi Z103 211 10 (Z103.1 211 6) = Z104 at h ⊢
      simp only [Option.some.injEq, Prod.mk.injEq] at h
      obtain ⟨-, rfl⟩ := h
      exact pG_ret (r := none) rfl ⟨rfl, rfl⟩
    · rw [if_neg hc102] at h
      refine pG_cmf (t := 21) rfl rfl hc102 ?_
      refine pG_many 2 (pc1 := 22) (L1 := [some (.ref 211), some (.int p0)]) (st1 := [.int 1, .ref 211]) (M1 := mjTo Z) rfl ?_
      refine pG_putI (ci := 12) (f := 9) rfl rfl rfl rfl (by rfl) ?_
      rw [mjLet] at h
      generalize zSi Z 211 9 1 = Z105 at h ⊢
      refine pG_many 2 (pc1 := 27) (L1 := [some (.ref 211), some (.int p0)]) (st1 := [.ref 211, .ref 211]) (M1 := mjTo Z105) rfl ?_
      refine pG_getI (ci := 12) (f := 6) rfl rfl (Or.inl rfl) (by rfl) ?_
      refine pG_putI (ci := 12) (f := 10) rfl rfl rfl rfl (by rfl) ?_
      rw [mjLet] at h
      generalize zSi Z105 211 10 (Z105.1 211 6) = Z106 at h ⊢
      simp only [Option.some.injEq, Prod.mk.injEq] at h
      obtain ⟨-, rfl⟩ := h
      exact pG_ret (r := none) rfl ⟨rfl, rfl⟩
  · rw [if_neg hc101] at h
    refine pG_iff (t := 8) rfl rfl hc101 ?_
    simp only [Option.some.injEq, Prod.mk.injEq] at h
    obtain ⟨-, rfl⟩ := h
    exact pG_ret (r := none) rfl ⟨rfl, rfl⟩
def f207_isGood  (Z : mjZt) : Option Int32 :=
  if mjCmp .ne (Z.1 211 9) 0 = true then
    some 0
  else
    some 1
theorem f207_isGood_ok  {Z : mjZt} {v9 : Int32} (h : f207_isGood  Z = some v9) : pG 207 0 (mjEnt [.ref 211] (mjML 207)) [] (mjTo Z) (fun r M1 => r = some (.int v9) ∧ M1 = mjTo Z) := by
  unfold f207_isGood at h
  show pG 207 0 [some (.ref 211)] [] (mjTo Z) _
  refine pG_many 1 (pc1 := 1) (L1 := [some (.ref 211)]) (st1 := [.ref 211]) (M1 := mjTo Z) rfl ?_
  refine pG_getI (ci := 12) (f := 9) rfl rfl (Or.inl rfl) (by rfl) ?_
  by_cases hc101 : mjCmp .ne (Z.1 211 9) 0 = true
  · rw [if_pos hc101] at h
    refine pG_ift (t := 11) rfl rfl hc101 ?_
    refine pG_many 1 (pc1 := 12) (L1 := [some (.ref 211)]) (st1 := [.int 0]) (M1 := mjTo Z) rfl ?_
    simp only [Option.some.injEq] at h
    subst h
    exact pG_ret (r := some (.int 0)) rfl ⟨rfl, rfl⟩
  · rw [if_neg hc101] at h
    refine pG_iff (t := 11) rfl rfl hc101 ?_
    refine pG_many 2 (pc1 := 12) (L1 := [some (.ref 211)]) (st1 := [.int 1]) (M1 := mjTo Z) rfl ?_
    simp only [Option.some.injEq] at h
    subst h
    exact pG_ret (r := some (.int 1)) rfl ⟨rfl, rfl⟩
def f208_isWord (p0 : Int64) (Z : mjZt) : Option Int32 :=
  if mjCmp .ne (Z.1 211 9) 0 = true then
    some 0
  else
    if mjCmp .ne (Z.1 211 7) 1 = true then
      some 0
    else
      if mjCmp .ne (lg_cmp (Z.2.1 211 13) p0) 0 = true then
        some 0
      else
        some 1
theorem f208_isWord_ok {p0 : Int64} {Z : mjZt} {v9 : Int32} (h : f208_isWord p0 Z = some v9) : pG 208 0 (mjEnt [.ref 211, .long p0] (mjML 208)) [] (mjTo Z) (fun r M1 => r = some (.int v9) ∧ M1 = mjTo Z) := by
  unfold f208_isWord at h
  show pG 208 0 [some (.ref 211), some (.long p0), none] [] (mjTo Z) _
  refine pG_many 1 (pc1 := 1) (L1 := [some (.ref 211), some (.long p0), none]) (st1 := [.ref 211]) (M1 := mjTo Z) rfl ?_
  refine pG_getI (ci := 12) (f := 9) rfl rfl (Or.inl rfl) (by rfl) ?_
  by_cases hc101 : mjCmp .ne (Z.1 211 9) 0 = true
  · rw [if_pos hc101] at h
    refine pG_ift (t := 28) rfl rfl hc101 ?_
    refine pG_many 1 (pc1 := 29) (L1 := [some (.ref 211), some (.long p0), none]) (st1 := [.int 0]) (M1 := mjTo Z) rfl ?_
    simp only [Option.some.injEq] at h
    subst h
    exact pG_ret (r := some (.int 0)) rfl ⟨rfl, rfl⟩
  · rw [if_neg hc101] at h
    refine pG_iff (t := 28) rfl rfl hc101 ?_
    refine pG_many 1 (pc1 := 8) (L1 := [some (.ref 211), some (.long p0), none]) (st1 := [.ref 211]) (M1 := mjTo Z) rfl ?_
    refine pG_getI (ci := 12) (f := 7) rfl rfl (Or.inl rfl) (by rfl) ?_
    refine pG_many 1 (pc1 := 12) (L1 := [some (.ref 211), some (.long p0), none]) (st1 := [.int 1, .int (Z.1 211 7)]) (M1 := mjTo Z) rfl ?_
    by_cases hc102 : mjCmp .ne (Z.1 211 7) 1 = true
    · rw [if_pos hc102] at h
      refine pG_cmt (t := 28) rfl rfl hc102 ?_
      refine pG_many 1 (pc1 := 29) (L1 := [some (.ref 211), some (.long p0), none]) (st1 := [.int 0]) (M1 := mjTo Z) rfl ?_
      simp only [Option.some.injEq] at h
      subst h
      exact pG_ret (r := some (.int 0)) rfl ⟨rfl, rfl⟩
    · rw [if_neg hc102] at h
      refine pG_cmf (t := 28) rfl rfl hc102 ?_
      refine pG_many 1 (pc1 := 16) (L1 := [some (.ref 211), some (.long p0), none]) (st1 := [.ref 211]) (M1 := mjTo Z) rfl ?_
      refine pG_getL (ci := 12) (f := 13) rfl rfl rfl (by rfl) ?_
      refine pG_many 2 (pc1 := 21) (L1 := [some (.ref 211), some (.long p0), none]) (st1 := [.int (lg_cmp (Z.2.1 211 13) p0)]) (M1 := mjTo Z) rfl ?_
      by_cases hc103 : mjCmp .ne (lg_cmp (Z.2.1 211 13) p0) 0 = true
      · rw [if_pos hc103] at h
        refine pG_ift (t := 28) rfl rfl hc103 ?_
        refine pG_many 1 (pc1 := 29) (L1 := [some (.ref 211), some (.long p0), none]) (st1 := [.int 0]) (M1 := mjTo Z) rfl ?_
        simp only [Option.some.injEq] at h
        subst h
        exact pG_ret (r := some (.int 0)) rfl ⟨rfl, rfl⟩
      · rw [if_neg hc103] at h
        refine pG_iff (t := 28) rfl rfl hc103 ?_
        refine pG_many 2 (pc1 := 29) (L1 := [some (.ref 211), some (.long p0), none]) (st1 := [.int 1]) (M1 := mjTo Z) rfl ?_
        simp only [Option.some.injEq] at h
        subst h
        exact pG_ret (r := some (.int 1)) rfl ⟨rfl, rfl⟩
def f209_isSignHere (p0 : Int32) (Z : mjZt) : Option Int32 :=
  if mjCmp .ne (Z.1 211 9) 0 = true then
    some 0
  else
    if mjCmp .ne (Z.1 211 7) 3 = true then
      some 0
    else
      if mjCmp .ne (Z.1 211 8) p0 = true then
        some 0
      else
        some 1
theorem f209_isSignHere_ok {p0 : Int32} {Z : mjZt} {v9 : Int32} (h : f209_isSignHere p0 Z = some v9) : pG 209 0 (mjEnt [.ref 211, .int p0] (mjML 209)) [] (mjTo Z) (fun r M1 => r = some (.int v9) ∧ M1 = mjTo Z) := by
  unfold f209_isSignHere at h
  show pG 209 0 [some (.ref 211), some (.int p0)] [] (mjTo Z) _
  refine pG_many 1 (pc1 := 1) (L1 := [some (.ref 211), some (.int p0)]) (st1 := [.ref 211]) (M1 := mjTo Z) rfl ?_
  refine pG_getI (ci := 12) (f := 9) rfl rfl (Or.inl rfl) (by rfl) ?_
  by_cases hc101 : mjCmp .ne (Z.1 211 9) 0 = true
  · rw [if_pos hc101] at h
    refine pG_ift (t := 27) rfl rfl hc101 ?_
    refine pG_many 1 (pc1 := 28) (L1 := [some (.ref 211), some (.int p0)]) (st1 := [.int 0]) (M1 := mjTo Z) rfl ?_
    simp only [Option.some.injEq] at h
    subst h
    exact pG_ret (r := some (.int 0)) rfl ⟨rfl, rfl⟩
  · rw [if_neg hc101] at h
    refine pG_iff (t := 27) rfl rfl hc101 ?_
    refine pG_many 1 (pc1 := 8) (L1 := [some (.ref 211), some (.int p0)]) (st1 := [.ref 211]) (M1 := mjTo Z) rfl ?_
    refine pG_getI (ci := 12) (f := 7) rfl rfl (Or.inl rfl) (by rfl) ?_
    refine pG_many 1 (pc1 := 12) (L1 := [some (.ref 211), some (.int p0)]) (st1 := [.int 3, .int (Z.1 211 7)]) (M1 := mjTo Z) rfl ?_
    by_cases hc102 : mjCmp .ne (Z.1 211 7) 3 = true
    · rw [if_pos hc102] at h
      refine pG_cmt (t := 27) rfl rfl hc102 ?_
      refine pG_many 1 (pc1 := 28) (L1 := [some (.ref 211), some (.int p0)]) (st1 := [.int 0]) (M1 := mjTo Z) rfl ?_
      simp only [Option.some.injEq] at h
      subst h
      exact pG_ret (r := some (.int 0)) rfl ⟨rfl, rfl⟩
    · rw [if_neg hc102] at h
      refine pG_cmf (t := 27) rfl rfl hc102 ?_
      refine pG_many 1 (pc1 := 16) (L1 := [some (.ref 211), some (.int p0)]) (st1 := [.ref 211]) (M1 := mjTo Z) rfl ?_
      refine pG_getI (ci := 12) (f := 8) rfl rfl (Or.inl rfl) (by rfl) ?_
      refine pG_many 1 (pc1 := 20) (L1 := [some (.ref 211), some (.int p0)]) (st1 := [.int p0, .int (Z.1 211 8)]) (M1 := mjTo Z) rfl ?_
      by_cases hc103 : mjCmp .ne (Z.1 211 8) p0 = true
      · rw [if_pos hc103] at h
        refine pG_cmt (t := 27) rfl rfl hc103 ?_
        refine pG_many 1 (pc1 := 28) (L1 := [some (.ref 211), some (.int p0)]) (st1 := [.int 0]) (M1 := mjTo Z) rfl ?_
        simp only [Option.some.injEq] at h
        subst h
        exact pG_ret (r := some (.int 0)) rfl ⟨rfl, rfl⟩
      · rw [if_neg hc103] at h
        refine pG_cmf (t := 27) rfl rfl hc103 ?_
        refine pG_many 2 (pc1 := 28) (L1 := [some (.ref 211), some (.int p0)]) (st1 := [.int 1]) (M1 := mjTo Z) rfl ?_
        simp only [Option.some.injEq] at h
        subst h
        exact pG_ret (r := some (.int 1)) rfl ⟨rfl, rfl⟩
def f210_among_h3 : Nat → Nat → Int32 → Int64 → Int32 → mjZt → Option Int32
  | 0, _, _, _, _, _ => none
  | n + 1, x0, x1, x2, x4, Z =>
    if mjCmp .ge x4 x1 = true then
      some ((-1))
    else
      if mjIs x0 251 14 = true then
      if mjIn x4 (mjLay x0).2 = true then
      if mjCmp .ne (lg_cmp (Z.2.1 x0 (mjIx x4)) x2) 0 = true then
        f210_among_h3 n x0 x1 x2 (x4 + 1) Z
      else
        some x4
      else none
      else none
theorem f210_among_h3_ok : ∀ (n : Nat) (x0 : Nat) (x1 : Int32) (x2 : Int64) (x4 : Int32) (d3 : Option Value) (Z : mjZt) (v9 : Int32), f210_among_h3 n x0 x1 x2 x4 Z = some v9 → pG 210 3 [some (.ref x0), some (.int x1), some (.long x2), d3, some (.int x4)] [] (mjTo Z) (fun r M1 => r = some (.int v9) ∧ M1 = mjTo Z)
  | 0, x0, x1, x2, x4, d3, Z, v9, h => by rw [f210_among_h3] at h; cases h
  | n + 1, x0, x1, x2, x4, d3, Z, v9, h => by
      rw [f210_among_h3] at h
      refine pG_many 2 (pc1 := 6) (L1 := [some (.ref x0), some (.int x1), some (.long x2), d3, some (.int x4)]) (st1 := [.int x1, .int x4]) (M1 := mjTo Z) rfl ?_
      by_cases hc101 : mjCmp .ge x4 x1 = true
      · rw [if_pos hc101] at h
        refine pG_cmt (t := 27) rfl rfl hc101 ?_
        refine pG_many 1 (pc1 := 28) (L1 := [some (.ref x0), some (.int x1), some (.long x2), d3, some (.int x4)]) (st1 := [.int ((-1))]) (M1 := mjTo Z) rfl ?_
        simp only [Option.some.injEq] at h
        subst h
        exact pG_ret (r := some (.int ((-1)))) rfl ⟨rfl, rfl⟩
      · rw [if_neg hc101] at h
        refine pG_cmf (t := 27) rfl rfl hc101 ?_
        refine pG_many 2 (pc1 := 12) (L1 := [some (.ref x0), some (.int x1), some (.long x2), d3, some (.int x4)]) (st1 := [.int x4, .ref x0]) (M1 := mjTo Z) rfl ?_
        have hk102 : mjIs x0 251 14 = true := by
          by_cases q9 : mjIs x0 251 14 = true
          · exact q9
          · rw [if_neg q9] at h; cases h
        rw [if_pos hk102] at h
        have hk103 : mjIn x4 (mjLay x0).2 = true := by
          by_cases q9 : mjIn x4 (mjLay x0).2 = true
          · exact q9
          · rw [if_neg q9] at h; cases h
        rw [if_pos hk103] at h
        refine pG_lal rfl hk102 hk103 ?_
        refine pG_many 2 (pc1 := 15) (L1 := [some (.ref x0), some (.int x1), some (.long x2), d3, some (.int x4)]) (st1 := [.int (lg_cmp (Z.2.1 x0 (mjIx x4)) x2)]) (M1 := mjTo Z) rfl ?_
        by_cases hc104 : mjCmp .ne (lg_cmp (Z.2.1 x0 (mjIx x4)) x2) 0 = true
        · rw [if_pos hc104] at h
          refine pG_ift (t := 21) rfl rfl hc104 ?_
          refine pG_many 2 (pc1 := 3) (L1 := [some (.ref x0), some (.int x1), some (.long x2), (mjK1 d3), some (.int (x4 + 1))]) (st1 := []) (M1 := mjTo Z) rfl ?_
          exact f210_among_h3_ok n x0 x1 x2 (x4 + 1) ((mjK1 d3)) Z v9 h
        · rw [if_neg hc104] at h
          refine pG_iff (t := 21) rfl rfl hc104 ?_
          refine pG_many 1 (pc1 := 20) (L1 := [some (.ref x0), some (.int x1), some (.long x2), d3, some (.int x4)]) (st1 := [.int x4]) (M1 := mjTo Z) rfl ?_
          simp only [Option.some.injEq] at h
          subst h
          exact pG_ret (r := some (.int x4)) rfl ⟨rfl, rfl⟩
def f210_among (p0 : Nat) (p1 : Int32) (p2 : Int64) (Z : mjZt) : Option Int32 :=
  f210_among_h3 mjF p0 p1 p2 0 Z
theorem f210_among_ok {p0 : Nat} {p1 : Int32} {p2 : Int64} {Z : mjZt} {v9 : Int32} (h : f210_among p0 p1 p2 Z = some v9) : pG 210 0 (mjEnt [.ref p0, .int p1, .long p2] (mjML 210)) [] (mjTo Z) (fun r M1 => r = some (.int v9) ∧ M1 = mjTo Z) := by
  unfold f210_among at h
  show pG 210 0 [some (.ref p0), some (.int p1), some (.long p2), none, none] [] (mjTo Z) _
  refine pG_many 2 (pc1 := 3) (L1 := [some (.ref p0), some (.int p1), some (.long p2), none, some (.int 0)]) (st1 := []) (M1 := mjTo Z) rfl ?_
  exact f210_among_h3_ok mjF p0 p1 p2 0 none Z v9 h
def f211_isKept  (Z : mjZt) : Option Int32 :=
  if mjCmp .eq (lg_cmp (Z.2.1 211 13) 500135191403) 0 = true then
    some 1
  else
    if mjCmp .eq (lg_cmp (Z.2.1 211 13) 1952801133) 0 = true then
      some 1
    else
      if mjCmp .eq (lg_cmp (Z.2.1 211 13) 1920298611) 0 = true then
        some 1
      else
        if mjCmp .eq (lg_cmp (Z.2.1 211 13) 6382452) 0 = true then
          some 1
        else
          if mjCmp .eq (lg_cmp (Z.2.1 211 13) 1920298085) 0 = true then
            some 1
          else
            if mjCmp .eq (lg_cmp (Z.2.1 211 13) 32765938003961704) 0 = true then
              some 1
            else
              if mjCmp .eq (lg_cmp (Z.2.1 211 13) 131294808271214) 0 = true then
                some 1
              else
                if mjCmp .eq (lg_cmp (Z.2.1 211 13) 2003330414) 0 = true then
                  some 1
                else
                  if mjCmp .eq (lg_cmp (Z.2.1 211 13) 111567739122533) 0 = true then
                    some 1
                  else
                    if mjCmp .eq (lg_cmp (Z.2.1 211 13) 6385252) 0 = true then
                      some 1
                    else
                      if mjCmp .eq (lg_cmp (Z.2.1 211 13) 28530) 0 = true then
                        some 1
                      else
                        if mjCmp .eq (lg_cmp (Z.2.1 211 13) 7237492) 0 = true then
                          some 1
                        else
                          mjBp (f210_among 213 5 (Z.2.1 211 13) Z) fun v114 =>
                          if mjCmp .ne v114 ((-1)) = true then
                            some 1
                          else
                            mjBp (f210_among 214 11 (Z.2.1 211 13) Z) fun v118 =>
                            if mjCmp .eq v118 ((-1)) = true then
                              some 0
                            else
                              some 1
theorem f211_isKept_ok  {Z : mjZt} {v9 : Int32} (h : f211_isKept  Z = some v9) : pG 211 0 (mjEnt [.ref 211] (mjML 211)) [] (mjTo Z) (fun r M1 => r = some (.int v9) ∧ M1 = mjTo Z) := by
  unfold f211_isKept at h
  show pG 211 0 [some (.ref 211)] [] (mjTo Z) _
  refine pG_many 1 (pc1 := 1) (L1 := [some (.ref 211)]) (st1 := [.ref 211]) (M1 := mjTo Z) rfl ?_
  refine pG_getL (ci := 12) (f := 13) rfl rfl rfl (by rfl) ?_
  refine pG_many 2 (pc1 := 8) (L1 := [some (.ref 211)]) (st1 := [.int (lg_cmp (Z.2.1 211 13) 500135191403)]) (M1 := mjTo Z) rfl ?_
  by_cases hc101 : mjCmp .eq (lg_cmp (Z.2.1 211 13) 500135191403) 0 = true
  · rw [if_pos hc101] at h
    refine pG_ift (t := 165) rfl rfl hc101 ?_
    refine pG_many 2 (pc1 := 170) (L1 := [some (.ref 211)]) (st1 := [.int 1]) (M1 := mjTo Z) rfl ?_
    simp only [Option.some.injEq] at h
    subst h
    exact pG_ret (r := some (.int 1)) rfl ⟨rfl, rfl⟩
  · rw [if_neg hc101] at h
    refine pG_iff (t := 165) rfl rfl hc101 ?_
    refine pG_many 1 (pc1 := 12) (L1 := [some (.ref 211)]) (st1 := [.ref 211]) (M1 := mjTo Z) rfl ?_
    refine pG_getL (ci := 12) (f := 13) rfl rfl rfl (by rfl) ?_
    refine pG_many 2 (pc1 := 19) (L1 := [some (.ref 211)]) (st1 := [.int (lg_cmp (Z.2.1 211 13) 1952801133)]) (M1 := mjTo Z) rfl ?_
    by_cases hc102 : mjCmp .eq (lg_cmp (Z.2.1 211 13) 1952801133) 0 = true
    · rw [if_pos hc102] at h
      refine pG_ift (t := 165) rfl rfl hc102 ?_
      refine pG_many 2 (pc1 := 170) (L1 := [some (.ref 211)]) (st1 := [.int 1]) (M1 := mjTo Z) rfl ?_
      simp only [Option.some.injEq] at h
      subst h
      exact pG_ret (r := some (.int 1)) rfl ⟨rfl, rfl⟩
    · rw [if_neg hc102] at h
      refine pG_iff (t := 165) rfl rfl hc102 ?_
      refine pG_many 1 (pc1 := 23) (L1 := [some (.ref 211)]) (st1 := [.ref 211]) (M1 := mjTo Z) rfl ?_
      refine pG_getL (ci := 12) (f := 13) rfl rfl rfl (by rfl) ?_
      refine pG_many 2 (pc1 := 30) (L1 := [some (.ref 211)]) (st1 := [.int (lg_cmp (Z.2.1 211 13) 1920298611)]) (M1 := mjTo Z) rfl ?_
      by_cases hc103 : mjCmp .eq (lg_cmp (Z.2.1 211 13) 1920298611) 0 = true
      · rw [if_pos hc103] at h
        refine pG_ift (t := 165) rfl rfl hc103 ?_
        refine pG_many 2 (pc1 := 170) (L1 := [some (.ref 211)]) (st1 := [.int 1]) (M1 := mjTo Z) rfl ?_
        simp only [Option.some.injEq] at h
        subst h
        exact pG_ret (r := some (.int 1)) rfl ⟨rfl, rfl⟩
      · rw [if_neg hc103] at h
        refine pG_iff (t := 165) rfl rfl hc103 ?_
        refine pG_many 1 (pc1 := 34) (L1 := [some (.ref 211)]) (st1 := [.ref 211]) (M1 := mjTo Z) rfl ?_
        refine pG_getL (ci := 12) (f := 13) rfl rfl rfl (by rfl) ?_
        refine pG_many 2 (pc1 := 41) (L1 := [some (.ref 211)]) (st1 := [.int (lg_cmp (Z.2.1 211 13) 6382452)]) (M1 := mjTo Z) rfl ?_
        by_cases hc104 : mjCmp .eq (lg_cmp (Z.2.1 211 13) 6382452) 0 = true
        · rw [if_pos hc104] at h
          refine pG_ift (t := 165) rfl rfl hc104 ?_
          refine pG_many 2 (pc1 := 170) (L1 := [some (.ref 211)]) (st1 := [.int 1]) (M1 := mjTo Z) rfl ?_
          simp only [Option.some.injEq] at h
          subst h
          exact pG_ret (r := some (.int 1)) rfl ⟨rfl, rfl⟩
        · rw [if_neg hc104] at h
          refine pG_iff (t := 165) rfl rfl hc104 ?_
          refine pG_many 1 (pc1 := 45) (L1 := [some (.ref 211)]) (st1 := [.ref 211]) (M1 := mjTo Z) rfl ?_
          refine pG_getL (ci := 12) (f := 13) rfl rfl rfl (by rfl) ?_
          refine pG_many 2 (pc1 := 52) (L1 := [some (.ref 211)]) (st1 := [.int (lg_cmp (Z.2.1 211 13) 1920298085)]) (M1 := mjTo Z) rfl ?_
          by_cases hc105 : mjCmp .eq (lg_cmp (Z.2.1 211 13) 1920298085) 0 = true
          · rw [if_pos hc105] at h
            refine pG_ift (t := 165) rfl rfl hc105 ?_
            refine pG_many 2 (pc1 := 170) (L1 := [some (.ref 211)]) (st1 := [.int 1]) (M1 := mjTo Z) rfl ?_
            simp only [Option.some.injEq] at h
            subst h
            exact pG_ret (r := some (.int 1)) rfl ⟨rfl, rfl⟩
          · rw [if_neg hc105] at h
            refine pG_iff (t := 165) rfl rfl hc105 ?_
            refine pG_many 1 (pc1 := 56) (L1 := [some (.ref 211)]) (st1 := [.ref 211]) (M1 := mjTo Z) rfl ?_
            refine pG_getL (ci := 12) (f := 13) rfl rfl rfl (by rfl) ?_
            refine pG_many 2 (pc1 := 63) (L1 := [some (.ref 211)]) (st1 := [.int (lg_cmp (Z.2.1 211 13) 32765938003961704)]) (M1 := mjTo Z) rfl ?_
            by_cases hc106 : mjCmp .eq (lg_cmp (Z.2.1 211 13) 32765938003961704) 0 = true
            · rw [if_pos hc106] at h
              refine pG_ift (t := 165) rfl rfl hc106 ?_
              refine pG_many 2 (pc1 := 170) (L1 := [some (.ref 211)]) (st1 := [.int 1]) (M1 := mjTo Z) rfl ?_
              simp only [Option.some.injEq] at h
              subst h
              exact pG_ret (r := some (.int 1)) rfl ⟨rfl, rfl⟩
            · rw [if_neg hc106] at h
              refine pG_iff (t := 165) rfl rfl hc106 ?_
              refine pG_many 1 (pc1 := 67) (L1 := [some (.ref 211)]) (st1 := [.ref 211]) (M1 := mjTo Z) rfl ?_
              refine pG_getL (ci := 12) (f := 13) rfl rfl rfl (by rfl) ?_
              refine pG_many 2 (pc1 := 74) (L1 := [some (.ref 211)]) (st1 := [.int (lg_cmp (Z.2.1 211 13) 131294808271214)]) (M1 := mjTo Z) rfl ?_
              by_cases hc107 : mjCmp .eq (lg_cmp (Z.2.1 211 13) 131294808271214) 0 = true
              · rw [if_pos hc107] at h
                refine pG_ift (t := 165) rfl rfl hc107 ?_
                refine pG_many 2 (pc1 := 170) (L1 := [some (.ref 211)]) (st1 := [.int 1]) (M1 := mjTo Z) rfl ?_
                simp only [Option.some.injEq] at h
                subst h
                exact pG_ret (r := some (.int 1)) rfl ⟨rfl, rfl⟩
              · rw [if_neg hc107] at h
                refine pG_iff (t := 165) rfl rfl hc107 ?_
                refine pG_many 1 (pc1 := 78) (L1 := [some (.ref 211)]) (st1 := [.ref 211]) (M1 := mjTo Z) rfl ?_
                refine pG_getL (ci := 12) (f := 13) rfl rfl rfl (by rfl) ?_
                refine pG_many 2 (pc1 := 85) (L1 := [some (.ref 211)]) (st1 := [.int (lg_cmp (Z.2.1 211 13) 2003330414)]) (M1 := mjTo Z) rfl ?_
                by_cases hc108 : mjCmp .eq (lg_cmp (Z.2.1 211 13) 2003330414) 0 = true
                · rw [if_pos hc108] at h
                  refine pG_ift (t := 165) rfl rfl hc108 ?_
                  refine pG_many 2 (pc1 := 170) (L1 := [some (.ref 211)]) (st1 := [.int 1]) (M1 := mjTo Z) rfl ?_
                  simp only [Option.some.injEq] at h
                  subst h
                  exact pG_ret (r := some (.int 1)) rfl ⟨rfl, rfl⟩
                · rw [if_neg hc108] at h
                  refine pG_iff (t := 165) rfl rfl hc108 ?_
                  refine pG_many 1 (pc1 := 89) (L1 := [some (.ref 211)]) (st1 := [.ref 211]) (M1 := mjTo Z) rfl ?_
                  refine pG_getL (ci := 12) (f := 13) rfl rfl rfl (by rfl) ?_
                  refine pG_many 2 (pc1 := 96) (L1 := [some (.ref 211)]) (st1 := [.int (lg_cmp (Z.2.1 211 13) 111567739122533)]) (M1 := mjTo Z) rfl ?_
                  by_cases hc109 : mjCmp .eq (lg_cmp (Z.2.1 211 13) 111567739122533) 0 = true
                  · rw [if_pos hc109] at h
                    refine pG_ift (t := 165) rfl rfl hc109 ?_
                    refine pG_many 2 (pc1 := 170) (L1 := [some (.ref 211)]) (st1 := [.int 1]) (M1 := mjTo Z) rfl ?_
                    simp only [Option.some.injEq] at h
                    subst h
                    exact pG_ret (r := some (.int 1)) rfl ⟨rfl, rfl⟩
                  · rw [if_neg hc109] at h
                    refine pG_iff (t := 165) rfl rfl hc109 ?_
                    refine pG_many 1 (pc1 := 100) (L1 := [some (.ref 211)]) (st1 := [.ref 211]) (M1 := mjTo Z) rfl ?_
                    refine pG_getL (ci := 12) (f := 13) rfl rfl rfl (by rfl) ?_
                    refine pG_many 2 (pc1 := 107) (L1 := [some (.ref 211)]) (st1 := [.int (lg_cmp (Z.2.1 211 13) 6385252)]) (M1 := mjTo Z) rfl ?_
                    by_cases hc110 : mjCmp .eq (lg_cmp (Z.2.1 211 13) 6385252) 0 = true
                    · rw [if_pos hc110] at h
                      refine pG_ift (t := 165) rfl rfl hc110 ?_
                      refine pG_many 2 (pc1 := 170) (L1 := [some (.ref 211)]) (st1 := [.int 1]) (M1 := mjTo Z) rfl ?_
                      simp only [Option.some.injEq] at h
                      subst h
                      exact pG_ret (r := some (.int 1)) rfl ⟨rfl, rfl⟩
                    · rw [if_neg hc110] at h
                      refine pG_iff (t := 165) rfl rfl hc110 ?_
                      refine pG_many 1 (pc1 := 111) (L1 := [some (.ref 211)]) (st1 := [.ref 211]) (M1 := mjTo Z) rfl ?_
                      refine pG_getL (ci := 12) (f := 13) rfl rfl rfl (by rfl) ?_
                      refine pG_many 2 (pc1 := 118) (L1 := [some (.ref 211)]) (st1 := [.int (lg_cmp (Z.2.1 211 13) 28530)]) (M1 := mjTo Z) rfl ?_
                      by_cases hc111 : mjCmp .eq (lg_cmp (Z.2.1 211 13) 28530) 0 = true
                      · rw [if_pos hc111] at h
                        refine pG_ift (t := 165) rfl rfl hc111 ?_
                        refine pG_many 2 (pc1 := 170) (L1 := [some (.ref 211)]) (st1 := [.int 1]) (M1 := mjTo Z) rfl ?_
                        simp only [Option.some.injEq] at h
                        subst h
                        exact pG_ret (r := some (.int 1)) rfl ⟨rfl, rfl⟩
                      · rw [if_neg hc111] at h
                        refine pG_iff (t := 165) rfl rfl hc111 ?_
                        refine pG_many 1 (pc1 := 122) (L1 := [some (.ref 211)]) (st1 := [.ref 211]) (M1 := mjTo Z) rfl ?_
                        refine pG_getL (ci := 12) (f := 13) rfl rfl rfl (by rfl) ?_
                        refine pG_many 2 (pc1 := 129) (L1 := [some (.ref 211)]) (st1 := [.int (lg_cmp (Z.2.1 211 13) 7237492)]) (M1 := mjTo Z) rfl ?_
                        by_cases hc112 : mjCmp .eq (lg_cmp (Z.2.1 211 13) 7237492) 0 = true
                        · rw [if_pos hc112] at h
                          refine pG_ift (t := 165) rfl rfl hc112 ?_
                          refine pG_many 2 (pc1 := 170) (L1 := [some (.ref 211)]) (st1 := [.int 1]) (M1 := mjTo Z) rfl ?_
                          simp only [Option.some.injEq] at h
                          subst h
                          exact pG_ret (r := some (.int 1)) rfl ⟨rfl, rfl⟩
                        · rw [if_neg hc112] at h
                          refine pG_iff (t := 165) rfl rfl hc112 ?_
                          refine pG_many 1 (pc1 := 133) (L1 := [some (.ref 211)]) (st1 := [.ref 211]) (M1 := mjTo Z) rfl ?_
                          refine pG_getR (ci := 12) (f := 2) (b := 213) rfl rfl rfl (by rfl) rfl ?_
                          refine pG_many 2 (pc1 := 138) (L1 := [some (.ref 211)]) (st1 := [.ref 211, .int 5, .ref 213]) (M1 := mjTo Z) rfl ?_
                          refine pG_getL (ci := 12) (f := 13) rfl rfl rfl (by rfl) ?_
                          cases hq113 : f210_among 213 5 (Z.2.1 211 13) Z with
                          | none => rw [hq113] at h; cases h
                          | some v114 =>
                            rw [hq113, mjBp_some] at h
                            refine pG_call (k2 := 210) (As := [.ref 213, .int 5, .long (Z.2.1 211 13)]) (rest := []) rfl (by decide) (f210_among_ok hq113) ?_
                            rintro r9 M9 ⟨rfl, rfl⟩
                            show pG 211 144 [some (.ref 211)] [.int v114] (mjTo Z) _
                            refine pG_many 1 (pc1 := 145) (L1 := [some (.ref 211)]) (st1 := [.int ((-1)), .int v114]) (M1 := mjTo Z) rfl ?_
                            by_cases hc116 : mjCmp .ne v114 ((-1)) = true
                            · rw [if_pos hc116] at h
                              refine pG_cmt (t := 165) rfl rfl hc116 ?_
                              refine pG_many 2 (pc1 := 170) (L1 := [some (.ref 211)]) (st1 := [.int 1]) (M1 := mjTo Z) rfl ?_
                              simp only [Option.some.injEq] at h
                              subst h
                              exact pG_ret (r := some (.int 1)) rfl ⟨rfl, rfl⟩
                            · rw [if_neg hc116] at h
                              refine pG_cmf (t := 165) rfl rfl hc116 ?_
                              refine pG_many 1 (pc1 := 149) (L1 := [some (.ref 211)]) (st1 := [.ref 211]) (M1 := mjTo Z) rfl ?_
                              refine pG_getR (ci := 12) (f := 3) (b := 214) rfl rfl rfl (by rfl) rfl ?_
                              refine pG_many 2 (pc1 := 155) (L1 := [some (.ref 211)]) (st1 := [.ref 211, .int 11, .ref 214]) (M1 := mjTo Z) rfl ?_
                              refine pG_getL (ci := 12) (f := 13) rfl rfl rfl (by rfl) ?_
                              cases hq117 : f210_among 214 11 (Z.2.1 211 13) Z with
                              | none => rw [hq117] at h; cases h
                              | some v118 =>
                                rw [hq117, mjBp_some] at h
                                refine pG_call (k2 := 210) (As := [.ref 214, .int 11, .long (Z.2.1 211 13)]) (rest := []) rfl (by decide) (f210_among_ok hq117) ?_
                                rintro r9 M9 ⟨rfl, rfl⟩
                                show pG 211 161 [some (.ref 211)] [.int v118] (mjTo Z) _
                                refine pG_many 1 (pc1 := 162) (L1 := [some (.ref 211)]) (st1 := [.int ((-1)), .int v118]) (M1 := mjTo Z) rfl ?_
                                by_cases hc120 : mjCmp .eq v118 ((-1)) = true
                                · rw [if_pos hc120] at h
                                  refine pG_cmt (t := 169) rfl rfl hc120 ?_
                                  refine pG_many 1 (pc1 := 170) (L1 := [some (.ref 211)]) (st1 := [.int 0]) (M1 := mjTo Z) rfl ?_
                                  simp only [Option.some.injEq] at h
                                  subst h
                                  exact pG_ret (r := some (.int 0)) rfl ⟨rfl, rfl⟩
                                · rw [if_neg hc120] at h
                                  refine pG_cmf (t := 169) rfl rfl hc120 ?_
                                  refine pG_many 2 (pc1 := 170) (L1 := [some (.ref 211)]) (st1 := [.int 1]) (M1 := mjTo Z) rfl ?_
                                  simp only [Option.some.injEq] at h
                                  subst h
                                  exact pG_ret (r := some (.int 1)) rfl ⟨rfl, rfl⟩
def f212_must (p0 : Int32) (Z : mjZt) : Option (Unit × mjZt) :=
  mjBp (f207_isGood  Z) fun v102 =>
  if mjCmp .eq v102 0 = true then
    if mjCmp .eq v102 0 = true then
      some ((), Z)
    else
      mjBd (f205_goOn  Z) fun _ Z111 =>
      some ((), Z111)
  else
    mjBp (f209_isSignHere p0 Z) fun v113 =>
    if mjCmp .ne v113 0 = true then
      if mjCmp .eq v102 0 = true then
        some ((), Z)
      else
        mjBd (f205_goOn  Z) fun _ Z122 =>
        some ((), Z122)
    else
      mjBd (f206_wrong 2 Z) fun _ Z125 =>
      mjBp (f207_isGood  Z125) fun v127 =>
      if mjCmp .eq v127 0 = true then
        some ((), Z125)
      else
        mjBd (f205_goOn  Z125) fun _ Z132 =>
        some ((), Z132)
theorem f212_must_ok {p0 : Int32} {Z : mjZt} {v9 : Unit} {Z9 : mjZt} (h : f212_must p0 Z = some (v9, Z9)) : pG 212 0 (mjEnt [.ref 211, .int p0] (mjML 212)) [] (mjTo Z) (fun r M1 => r = none ∧ M1 = mjTo Z9) := by
  unfold f212_must at h
  show pG 212 0 [some (.ref 211), some (.int p0)] [] (mjTo Z) _
  refine pG_many 1 (pc1 := 1) (L1 := [some (.ref 211), some (.int p0)]) (st1 := [.ref 211]) (M1 := mjTo Z) rfl ?_
  cases hq101 : f207_isGood  Z with
  | none => rw [hq101] at h; cases h
  | some v102 =>
    rw [hq101, mjBp_some] at h
    refine pG_callV (k2 := 207) (As := [.ref 211]) (rest := []) rfl rfl rfl rfl rfl (by rfl) (by decide) (f207_isGood_ok hq101) ?_
    rintro r9 M9 ⟨rfl, rfl⟩
    show pG 212 4 [some (.ref 211), some (.int p0)] [.int v102] (mjTo Z) _
    by_cases hc104 : mjCmp .eq v102 0 = true
    · rw [if_pos hc104] at h
      refine pG_ift (t := 20) rfl rfl hc104 ?_
      refine pG_many 1 (pc1 := 21) (L1 := [some (.ref 211), some (.int p0)]) (st1 := [.ref 211]) (M1 := mjTo Z) rfl ?_
      refine pG_callV (k2 := 207) (As := [.ref 211]) (rest := []) rfl rfl rfl rfl rfl (by rfl) (by decide) (f207_isGood_ok hq101) ?_
      rintro r9 M9 ⟨rfl, rfl⟩
      show pG 212 24 [some (.ref 211), some (.int p0)] [.int v102] (mjTo Z) _
      by_cases hc108 : mjCmp .eq v102 0 = true
      · rw [if_pos hc108] at h
        refine pG_ift (t := 31) rfl rfl hc108 ?_
        simp only [Option.some.injEq, Prod.mk.injEq] at h
        obtain ⟨-, rfl⟩ := h
        exact pG_ret (r := none) rfl ⟨rfl, rfl⟩
      · rw [if_neg hc108] at h
        refine pG_iff (t := 31) rfl rfl hc108 ?_
        refine pG_many 1 (pc1 := 28) (L1 := [some (.ref 211), some (.int p0)]) (st1 := [.ref 211]) (M1 := mjTo Z) rfl ?_
        cases hq109 : f205_goOn  Z with
        | none => rw [hq109] at h; cases h
        | some w =>
          obtain ⟨v110, Z111⟩ := w
          rw [hq109, mjBd_some] at h
          refine pG_callV (k2 := 205) (As := [.ref 211]) (rest := []) rfl rfl rfl rfl rfl (by rfl) (by decide) (f205_goOn_ok hq109) ?_
          rintro r9 M9 ⟨rfl, rfl⟩
          show pG 212 31 [some (.ref 211), some (.int p0)] [] (mjTo Z111) _
          simp only [Option.some.injEq, Prod.mk.injEq] at h
          obtain ⟨-, rfl⟩ := h
          exact pG_ret (r := none) rfl ⟨rfl, rfl⟩
    · rw [if_neg hc104] at h
      refine pG_iff (t := 20) rfl rfl hc104 ?_
      refine pG_many 2 (pc1 := 9) (L1 := [some (.ref 211), some (.int p0)]) (st1 := [.int p0, .ref 211]) (M1 := mjTo Z) rfl ?_
      cases hq112 : f209_isSignHere p0 Z with
      | none => rw [hq112] at h; cases h
      | some v113 =>
        rw [hq112, mjBp_some] at h
        refine pG_callV (k2 := 209) (As := [.ref 211, .int p0]) (rest := []) rfl rfl rfl rfl rfl (by rfl) (by decide) (f209_isSignHere_ok hq112) ?_
        rintro r9 M9 ⟨rfl, rfl⟩
        show pG 212 12 [some (.ref 211), some (.int p0)] [.int v113] (mjTo Z) _
        by_cases hc115 : mjCmp .ne v113 0 = true
        · rw [if_pos hc115] at h
          refine pG_ift (t := 20) rfl rfl hc115 ?_
          refine pG_many 1 (pc1 := 21) (L1 := [some (.ref 211), some (.int p0)]) (st1 := [.ref 211]) (M1 := mjTo Z) rfl ?_
          refine pG_callV (k2 := 207) (As := [.ref 211]) (rest := []) rfl rfl rfl rfl rfl (by rfl) (by decide) (f207_isGood_ok hq101) ?_
          rintro r9 M9 ⟨rfl, rfl⟩
          show pG 212 24 [some (.ref 211), some (.int p0)] [.int v102] (mjTo Z) _
          by_cases hc119 : mjCmp .eq v102 0 = true
          · rw [if_pos hc119] at h
            refine pG_ift (t := 31) rfl rfl hc119 ?_
            simp only [Option.some.injEq, Prod.mk.injEq] at h
            obtain ⟨-, rfl⟩ := h
            exact pG_ret (r := none) rfl ⟨rfl, rfl⟩
          · rw [if_neg hc119] at h
            refine pG_iff (t := 31) rfl rfl hc119 ?_
            refine pG_many 1 (pc1 := 28) (L1 := [some (.ref 211), some (.int p0)]) (st1 := [.ref 211]) (M1 := mjTo Z) rfl ?_
            cases hq120 : f205_goOn  Z with
            | none => rw [hq120] at h; cases h
            | some w =>
              obtain ⟨v121, Z122⟩ := w
              rw [hq120, mjBd_some] at h
              refine pG_callV (k2 := 205) (As := [.ref 211]) (rest := []) rfl rfl rfl rfl rfl (by rfl) (by decide) (f205_goOn_ok hq120) ?_
              rintro r9 M9 ⟨rfl, rfl⟩
              show pG 212 31 [some (.ref 211), some (.int p0)] [] (mjTo Z122) _
              simp only [Option.some.injEq, Prod.mk.injEq] at h
              obtain ⟨-, rfl⟩ := h
              exact pG_ret (r := none) rfl ⟨rfl, rfl⟩
        · rw [if_neg hc115] at h
          refine pG_iff (t := 20) rfl rfl hc115 ?_
          refine pG_many 2 (pc1 := 17) (L1 := [some (.ref 211), some (.int p0)]) (st1 := [.int 2, .ref 211]) (M1 := mjTo Z) rfl ?_
          cases hq123 : f206_wrong 2 Z with
          | none => rw [hq123] at h; cases h
          | some w =>
            obtain ⟨v124, Z125⟩ := w
            rw [hq123, mjBd_some] at h
            refine pG_callV (k2 := 206) (As := [.ref 211, .int 2]) (rest := []) rfl rfl rfl rfl rfl (by rfl) (by decide) (f206_wrong_ok hq123) ?_
            rintro r9 M9 ⟨rfl, rfl⟩
            show pG 212 20 [some (.ref 211), some (.int p0)] [] (mjTo Z125) _
            refine pG_many 1 (pc1 := 21) (L1 := [some (.ref 211), some (.int p0)]) (st1 := [.ref 211]) (M1 := mjTo Z125) rfl ?_
            cases hq126 : f207_isGood  Z125 with
            | none => rw [hq126] at h; cases h
            | some v127 =>
              rw [hq126, mjBp_some] at h
              refine pG_callV (k2 := 207) (As := [.ref 211]) (rest := []) rfl rfl rfl rfl rfl (by rfl) (by decide) (f207_isGood_ok hq126) ?_
              rintro r9 M9 ⟨rfl, rfl⟩
              show pG 212 24 [some (.ref 211), some (.int p0)] [.int v127] (mjTo Z125) _
              by_cases hc129 : mjCmp .eq v127 0 = true
              · rw [if_pos hc129] at h
                refine pG_ift (t := 31) rfl rfl hc129 ?_
                simp only [Option.some.injEq, Prod.mk.injEq] at h
                obtain ⟨-, rfl⟩ := h
                exact pG_ret (r := none) rfl ⟨rfl, rfl⟩
              · rw [if_neg hc129] at h
                refine pG_iff (t := 31) rfl rfl hc129 ?_
                refine pG_many 1 (pc1 := 28) (L1 := [some (.ref 211), some (.int p0)]) (st1 := [.ref 211]) (M1 := mjTo Z125) rfl ?_
                cases hq130 : f205_goOn  Z125 with
                | none => rw [hq130] at h; cases h
                | some w =>
                  obtain ⟨v131, Z132⟩ := w
                  rw [hq130, mjBd_some] at h
                  refine pG_callV (k2 := 205) (As := [.ref 211]) (rest := []) rfl rfl rfl rfl rfl (by rfl) (by decide) (f205_goOn_ok hq130) ?_
                  rintro r9 M9 ⟨rfl, rfl⟩
                  show pG 212 31 [some (.ref 211), some (.int p0)] [] (mjTo Z132) _
                  simp only [Option.some.injEq, Prod.mk.injEq] at h
                  obtain ⟨-, rfl⟩ := h
                  exact pG_ret (r := none) rfl ⟨rfl, rfl⟩
def f213_number_j20 (x1 : Int32) (x2 : Int32) (Z : mjZt) : Option (Int32 × mjZt) :=
  mjBp (f207_isGood  Z) fun v106 =>
  if mjCmp .eq v106 0 = true then
    if mjCmp .eq v106 0 = true then
      some (Z.1 211 8, Z)
    else
      mjBd (f205_goOn  Z) fun _ Z115 =>
      some (Z.1 211 8, Z115)
  else
    mjBp (f195_isIn (Int32.toInt64 (Z.1 211 8)) (Int32.toInt64 x1) (Int32.toInt64 x2) Z) fun v117 =>
    if mjCmp .ne v117 0 = true then
      if mjCmp .eq v106 0 = true then
        some (Z.1 211 8, Z)
      else
        mjBd (f205_goOn  Z) fun _ Z126 =>
        some (Z.1 211 8, Z126)
    else
      mjBd (f206_wrong 4 Z) fun _ Z129 =>
      mjBp (f207_isGood  Z129) fun v131 =>
      if mjCmp .eq v131 0 = true then
        some (Z.1 211 8, Z129)
      else
        mjBd (f205_goOn  Z129) fun _ Z136 =>
        some (Z.1 211 8, Z136)
theorem f213_number_j20_ok (x1 : Int32) (x2 : Int32) (d3 : Option Value) (Z : mjZt) (v9 : Int32) (Z9 : mjZt) (h : f213_number_j20 x1 x2 Z = some (v9, Z9)) : pG 213 20 [some (.ref 211), some (.int x1), some (.int x2), d3] [] (mjTo Z) (fun r M1 => r = some (.int v9) ∧ M1 = mjTo Z9) := by
  unfold f213_number_j20 at h
  refine pG_many 1 (pc1 := 21) (L1 := [some (.ref 211), some (.int x1), some (.int x2), d3]) (st1 := [.ref 211]) (M1 := mjTo Z) rfl ?_
  refine pG_getI (ci := 12) (f := 8) rfl rfl (Or.inl rfl) (by rfl) ?_
  refine pG_many 2 (pc1 := 26) (L1 := [some (.ref 211), some (.int x1), some (.int x2), some (.int (Z.1 211 8))]) (st1 := [.ref 211]) (M1 := mjTo Z) rfl ?_
  cases hq105 : f207_isGood  Z with
  | none => rw [hq105] at h; cases h
  | some v106 =>
    rw [hq105, mjBp_some] at h
    refine pG_callV (k2 := 207) (As := [.ref 211]) (rest := []) rfl rfl rfl rfl rfl (by rfl) (by decide) (f207_isGood_ok hq105) ?_
    rintro r9 M9 ⟨rfl, rfl⟩
    show pG 213 29 [some (.ref 211), some (.int x1), some (.int x2), some (.int (Z.1 211 8))] [.int v106] (mjTo Z) _
    by_cases hc108 : mjCmp .eq v106 0 = true
    · rw [if_pos hc108] at h
      refine pG_ift (t := 49) rfl rfl hc108 ?_
      refine pG_many 1 (pc1 := 50) (L1 := [some (.ref 211), some (.int x1), some (.int x2), some (.int (Z.1 211 8))]) (st1 := [.ref 211]) (M1 := mjTo Z) rfl ?_
      refine pG_callV (k2 := 207) (As := [.ref 211]) (rest := []) rfl rfl rfl rfl rfl (by rfl) (by decide) (f207_isGood_ok hq105) ?_
      rintro r9 M9 ⟨rfl, rfl⟩
      show pG 213 53 [some (.ref 211), some (.int x1), some (.int x2), some (.int (Z.1 211 8))] [.int v106] (mjTo Z) _
      by_cases hc112 : mjCmp .eq v106 0 = true
      · rw [if_pos hc112] at h
        refine pG_ift (t := 60) rfl rfl hc112 ?_
        refine pG_many 1 (pc1 := 61) (L1 := [some (.ref 211), some (.int x1), some (.int x2), some (.int (Z.1 211 8))]) (st1 := [.int (Z.1 211 8)]) (M1 := mjTo Z) rfl ?_
        simp only [Option.some.injEq, Prod.mk.injEq] at h
        obtain ⟨rfl, rfl⟩ := h
        exact pG_ret (r := some (.int (Z.1 211 8))) rfl ⟨rfl, rfl⟩
      · rw [if_neg hc112] at h
        refine pG_iff (t := 60) rfl rfl hc112 ?_
        refine pG_many 1 (pc1 := 57) (L1 := [some (.ref 211), some (.int x1), some (.int x2), some (.int (Z.1 211 8))]) (st1 := [.ref 211]) (M1 := mjTo Z) rfl ?_
        cases hq113 : f205_goOn  Z with
        | none => rw [hq113] at h; cases h
        | some w =>
          obtain ⟨v114, Z115⟩ := w
          rw [hq113, mjBd_some] at h
          refine pG_callV (k2 := 205) (As := [.ref 211]) (rest := []) rfl rfl rfl rfl rfl (by rfl) (by decide) (f205_goOn_ok hq113) ?_
          rintro r9 M9 ⟨rfl, rfl⟩
          show pG 213 60 [some (.ref 211), some (.int x1), some (.int x2), some (.int (Z.1 211 8))] [] (mjTo Z115) _
          refine pG_many 1 (pc1 := 61) (L1 := [some (.ref 211), some (.int x1), some (.int x2), some (.int (Z.1 211 8))]) (st1 := [.int (Z.1 211 8)]) (M1 := mjTo Z115) rfl ?_
          simp only [Option.some.injEq, Prod.mk.injEq] at h
          obtain ⟨rfl, rfl⟩ := h
          exact pG_ret (r := some (.int (Z.1 211 8))) rfl ⟨rfl, rfl⟩
    · rw [if_neg hc108] at h
      refine pG_iff (t := 49) rfl rfl hc108 ?_
      refine pG_many 6 (pc1 := 38) (L1 := [some (.ref 211), some (.int x1), some (.int x2), some (.int (Z.1 211 8))]) (st1 := [.long (Int32.toInt64 x2), .long (Int32.toInt64 x1), .long (Int32.toInt64 (Z.1 211 8))]) (M1 := mjTo Z) rfl ?_
      cases hq116 : f195_isIn (Int32.toInt64 (Z.1 211 8)) (Int32.toInt64 x1) (Int32.toInt64 x2) Z with
      | none => rw [hq116] at h; cases h
      | some v117 =>
        rw [hq116, mjBp_some] at h
        refine pG_call (k2 := 195) (As := [.long (Int32.toInt64 (Z.1 211 8)), .long (Int32.toInt64 x1), .long (Int32.toInt64 x2)]) (rest := []) rfl (by decide) (f195_isIn_ok hq116) ?_
        rintro r9 M9 ⟨rfl, rfl⟩
        show pG 213 41 [some (.ref 211), some (.int x1), some (.int x2), some (.int (Z.1 211 8))] [.int v117] (mjTo Z) _
        by_cases hc119 : mjCmp .ne v117 0 = true
        · rw [if_pos hc119] at h
          refine pG_ift (t := 49) rfl rfl hc119 ?_
          refine pG_many 1 (pc1 := 50) (L1 := [some (.ref 211), some (.int x1), some (.int x2), some (.int (Z.1 211 8))]) (st1 := [.ref 211]) (M1 := mjTo Z) rfl ?_
          refine pG_callV (k2 := 207) (As := [.ref 211]) (rest := []) rfl rfl rfl rfl rfl (by rfl) (by decide) (f207_isGood_ok hq105) ?_
          rintro r9 M9 ⟨rfl, rfl⟩
          show pG 213 53 [some (.ref 211), some (.int x1), some (.int x2), some (.int (Z.1 211 8))] [.int v106] (mjTo Z) _
          by_cases hc123 : mjCmp .eq v106 0 = true
          · rw [if_pos hc123] at h
            refine pG_ift (t := 60) rfl rfl hc123 ?_
            refine pG_many 1 (pc1 := 61) (L1 := [some (.ref 211), some (.int x1), some (.int x2), some (.int (Z.1 211 8))]) (st1 := [.int (Z.1 211 8)]) (M1 := mjTo Z) rfl ?_
            simp only [Option.some.injEq, Prod.mk.injEq] at h
            obtain ⟨rfl, rfl⟩ := h
            exact pG_ret (r := some (.int (Z.1 211 8))) rfl ⟨rfl, rfl⟩
          · rw [if_neg hc123] at h
            refine pG_iff (t := 60) rfl rfl hc123 ?_
            refine pG_many 1 (pc1 := 57) (L1 := [some (.ref 211), some (.int x1), some (.int x2), some (.int (Z.1 211 8))]) (st1 := [.ref 211]) (M1 := mjTo Z) rfl ?_
            cases hq124 : f205_goOn  Z with
            | none => rw [hq124] at h; cases h
            | some w =>
              obtain ⟨v125, Z126⟩ := w
              rw [hq124, mjBd_some] at h
              refine pG_callV (k2 := 205) (As := [.ref 211]) (rest := []) rfl rfl rfl rfl rfl (by rfl) (by decide) (f205_goOn_ok hq124) ?_
              rintro r9 M9 ⟨rfl, rfl⟩
              show pG 213 60 [some (.ref 211), some (.int x1), some (.int x2), some (.int (Z.1 211 8))] [] (mjTo Z126) _
              refine pG_many 1 (pc1 := 61) (L1 := [some (.ref 211), some (.int x1), some (.int x2), some (.int (Z.1 211 8))]) (st1 := [.int (Z.1 211 8)]) (M1 := mjTo Z126) rfl ?_
              simp only [Option.some.injEq, Prod.mk.injEq] at h
              obtain ⟨rfl, rfl⟩ := h
              exact pG_ret (r := some (.int (Z.1 211 8))) rfl ⟨rfl, rfl⟩
        · rw [if_neg hc119] at h
          refine pG_iff (t := 49) rfl rfl hc119 ?_
          refine pG_many 2 (pc1 := 46) (L1 := [some (.ref 211), some (.int x1), some (.int x2), some (.int (Z.1 211 8))]) (st1 := [.int 4, .ref 211]) (M1 := mjTo Z) rfl ?_
          cases hq127 : f206_wrong 4 Z with
          | none => rw [hq127] at h; cases h
          | some w =>
            obtain ⟨v128, Z129⟩ := w
            rw [hq127, mjBd_some] at h
            refine pG_callV (k2 := 206) (As := [.ref 211, .int 4]) (rest := []) rfl rfl rfl rfl rfl (by rfl) (by decide) (f206_wrong_ok hq127) ?_
            rintro r9 M9 ⟨rfl, rfl⟩
            show pG 213 49 [some (.ref 211), some (.int x1), some (.int x2), some (.int (Z.1 211 8))] [] (mjTo Z129) _
            refine pG_many 1 (pc1 := 50) (L1 := [some (.ref 211), some (.int x1), some (.int x2), some (.int (Z.1 211 8))]) (st1 := [.ref 211]) (M1 := mjTo Z129) rfl ?_
            cases hq130 : f207_isGood  Z129 with
            | none => rw [hq130] at h; cases h
            | some v131 =>
              rw [hq130, mjBp_some] at h
              refine pG_callV (k2 := 207) (As := [.ref 211]) (rest := []) rfl rfl rfl rfl rfl (by rfl) (by decide) (f207_isGood_ok hq130) ?_
              rintro r9 M9 ⟨rfl, rfl⟩
              show pG 213 53 [some (.ref 211), some (.int x1), some (.int x2), some (.int (Z.1 211 8))] [.int v131] (mjTo Z129) _
              by_cases hc133 : mjCmp .eq v131 0 = true
              · rw [if_pos hc133] at h
                refine pG_ift (t := 60) rfl rfl hc133 ?_
                refine pG_many 1 (pc1 := 61) (L1 := [some (.ref 211), some (.int x1), some (.int x2), some (.int (Z.1 211 8))]) (st1 := [.int (Z.1 211 8)]) (M1 := mjTo Z129) rfl ?_
                simp only [Option.some.injEq, Prod.mk.injEq] at h
                obtain ⟨rfl, rfl⟩ := h
                exact pG_ret (r := some (.int (Z.1 211 8))) rfl ⟨rfl, rfl⟩
              · rw [if_neg hc133] at h
                refine pG_iff (t := 60) rfl rfl hc133 ?_
                refine pG_many 1 (pc1 := 57) (L1 := [some (.ref 211), some (.int x1), some (.int x2), some (.int (Z.1 211 8))]) (st1 := [.ref 211]) (M1 := mjTo Z129) rfl ?_
                cases hq134 : f205_goOn  Z129 with
                | none => rw [hq134] at h; cases h
                | some w =>
                  obtain ⟨v135, Z136⟩ := w
                  rw [hq134, mjBd_some] at h
                  refine pG_callV (k2 := 205) (As := [.ref 211]) (rest := []) rfl rfl rfl rfl rfl (by rfl) (by decide) (f205_goOn_ok hq134) ?_
                  rintro r9 M9 ⟨rfl, rfl⟩
                  show pG 213 60 [some (.ref 211), some (.int x1), some (.int x2), some (.int (Z.1 211 8))] [] (mjTo Z136) _
                  refine pG_many 1 (pc1 := 61) (L1 := [some (.ref 211), some (.int x1), some (.int x2), some (.int (Z.1 211 8))]) (st1 := [.int (Z.1 211 8)]) (M1 := mjTo Z136) rfl ?_
                  simp only [Option.some.injEq, Prod.mk.injEq] at h
                  obtain ⟨rfl, rfl⟩ := h
                  exact pG_ret (r := some (.int (Z.1 211 8))) rfl ⟨rfl, rfl⟩
def f213_number (p0 : Int32) (p1 : Int32) (Z : mjZt) : Option (Int32 × mjZt) :=
  mjBp (f207_isGood  Z) fun v102 =>
  if mjCmp .eq v102 0 = true then
    f213_number_j20 p0 p1 Z
  else
    if mjCmp .eq (Z.1 211 7) 2 = true then
      f213_number_j20 p0 p1 Z
    else
      mjBd (f206_wrong 2 Z) fun _ Z140 =>
      f213_number_j20 p0 p1 Z140
theorem f213_number_ok {p0 : Int32} {p1 : Int32} {Z : mjZt} {v9 : Int32} {Z9 : mjZt} (h : f213_number p0 p1 Z = some (v9, Z9)) : pG 213 0 (mjEnt [.ref 211, .int p0, .int p1] (mjML 213)) [] (mjTo Z) (fun r M1 => r = some (.int v9) ∧ M1 = mjTo Z9) := by
  unfold f213_number at h
  show pG 213 0 [some (.ref 211), some (.int p0), some (.int p1), none] [] (mjTo Z) _
  refine pG_many 1 (pc1 := 1) (L1 := [some (.ref 211), some (.int p0), some (.int p1), none]) (st1 := [.ref 211]) (M1 := mjTo Z) rfl ?_
  cases hq101 : f207_isGood  Z with
  | none => rw [hq101] at h; cases h
  | some v102 =>
    rw [hq101, mjBp_some] at h
    refine pG_callV (k2 := 207) (As := [.ref 211]) (rest := []) rfl rfl rfl rfl rfl (by rfl) (by decide) (f207_isGood_ok hq101) ?_
    rintro r9 M9 ⟨rfl, rfl⟩
    show pG 213 4 [some (.ref 211), some (.int p0), some (.int p1), none] [.int v102] (mjTo Z) _
    by_cases hc104 : mjCmp .eq v102 0 = true
    · rw [if_pos hc104] at h
      refine pG_ift (t := 20) rfl rfl hc104 ?_
      exact f213_number_j20_ok p0 p1 none Z v9 Z9 h
    · rw [if_neg hc104] at h
      refine pG_iff (t := 20) rfl rfl hc104 ?_
      refine pG_many 1 (pc1 := 8) (L1 := [some (.ref 211), some (.int p0), some (.int p1), none]) (st1 := [.ref 211]) (M1 := mjTo Z) rfl ?_
      refine pG_getI (ci := 12) (f := 7) rfl rfl (Or.inl rfl) (by rfl) ?_
      refine pG_many 1 (pc1 := 12) (L1 := [some (.ref 211), some (.int p0), some (.int p1), none]) (st1 := [.int 2, .int (Z.1 211 7)]) (M1 := mjTo Z) rfl ?_
      by_cases hc137 : mjCmp .eq (Z.1 211 7) 2 = true
      · rw [if_pos hc137] at h
        refine pG_cmt (t := 20) rfl rfl hc137 ?_
        exact f213_number_j20_ok p0 p1 none Z v9 Z9 h
      · rw [if_neg hc137] at h
        refine pG_cmf (t := 20) rfl rfl hc137 ?_
        refine pG_many 2 (pc1 := 17) (L1 := [some (.ref 211), some (.int p0), some (.int p1), none]) (st1 := [.int 2, .ref 211]) (M1 := mjTo Z) rfl ?_
        cases hq138 : f206_wrong 2 Z with
        | none => rw [hq138] at h; cases h
        | some w =>
          obtain ⟨v139, Z140⟩ := w
          rw [hq138, mjBd_some] at h
          refine pG_callV (k2 := 206) (As := [.ref 211, .int 2]) (rest := []) rfl rfl rfl rfl rfl (by rfl) (by decide) (f206_wrong_ok hq138) ?_
          rintro r9 M9 ⟨rfl, rfl⟩
          show pG 213 20 [some (.ref 211), some (.int p0), some (.int p1), none] [] (mjTo Z140) _
          exact f213_number_j20_ok p0 p1 none Z140 v9 Z9 h
def f214_emits (p0 : Int32) (Z : mjZt) : Option (Unit × mjZt) :=
  if mjIn (Z.1 211 17) 1500 = true then
  mjLet (zSi Z 215 (mjIx (Z.1 211 17)) p0) fun Z102 =>
  mjLet (zSi Z102 211 17 ((Z102.1 211 17) + 1)) fun Z103 =>
  some ((), Z103)
  else none
theorem f214_emits_ok {p0 : Int32} {Z : mjZt} {v9 : Unit} {Z9 : mjZt} (h : f214_emits p0 Z = some (v9, Z9)) : pG 214 0 (mjEnt [.ref 211, .int p0] (mjML 214)) [] (mjTo Z) (fun r M1 => r = none ∧ M1 = mjTo Z9) := by
  unfold f214_emits at h
  show pG 214 0 [some (.ref 211), some (.int p0)] [] (mjTo Z) _
  refine pG_many 1 (pc1 := 1) (L1 := [some (.ref 211), some (.int p0)]) (st1 := [.ref 211]) (M1 := mjTo Z) rfl ?_
  refine pG_getR (ci := 12) (f := 14) (b := 215) rfl rfl rfl (by rfl) rfl ?_
  refine pG_many 1 (pc1 := 5) (L1 := [some (.ref 211), some (.int p0)]) (st1 := [.ref 211, .ref 215]) (M1 := mjTo Z) rfl ?_
  refine pG_getI (ci := 12) (f := 17) rfl rfl (Or.inl rfl) (by rfl) ?_
  refine pG_many 1 (pc1 := 9) (L1 := [some (.ref 211), some (.int p0)]) (st1 := [.int p0, .int (Z.1 211 17), .ref 215]) (M1 := mjTo Z) rfl ?_
  have hk101 : mjIn (Z.1 211 17) 1500 = true := by
    by_cases q9 : mjIn (Z.1 211 17) 1500 = true
    · exact q9
    · rw [if_neg q9] at h; cases h
  rw [if_pos hk101] at h
  refine pG_ias rfl (by rfl) hk101 (?_ : pG 214 10 [some (.ref 211), some (.int p0)] [] (mjTo (zSi Z 215 (mjIx (Z.1 211 17)) p0)) _)
  rw [mjLet] at h
  generalize zSi Z 215 (mjIx (Z.1 211 17)) p0 = Z102 at h ⊢
  refine pG_many 2 (pc1 := 12) (L1 := [some (.ref 211), some (.int p0)]) (st1 := [.ref 211, .ref 211]) (M1 := mjTo Z102) rfl ?_
  refine pG_getI (ci := 12) (f := 17) rfl rfl (Or.inl rfl) (by rfl) ?_
  refine pG_many 2 (pc1 := 17) (L1 := [some (.ref 211), some (.int p0)]) (st1 := [.int ((Z102.1 211 17) + 1), .ref 211]) (M1 := mjTo Z102) rfl ?_
  refine pG_putI (ci := 12) (f := 17) rfl rfl rfl rfl (by rfl) ?_
  rw [mjLet] at h
  generalize zSi Z102 211 17 ((Z102.1 211 17) + 1) = Z103 at h ⊢
  simp only [Option.some.injEq, Prod.mk.injEq] at h
  obtain ⟨-, rfl⟩ := h
  exact pG_ret (r := none) rfl ⟨rfl, rfl⟩
def f215_waitsFor (p0 : Int32) (Z : mjZt) : Option (Unit × mjZt) :=
  if mjIn (Z.1 211 18) 800 = true then
  mjLet (zSi Z 217 (mjIx (Z.1 211 18)) p0) fun Z102 =>
  mjLet (zSi Z102 211 18 ((Z102.1 211 18) + 1)) fun Z103 =>
  some ((), Z103)
  else none
theorem f215_waitsFor_ok {p0 : Int32} {Z : mjZt} {v9 : Unit} {Z9 : mjZt} (h : f215_waitsFor p0 Z = some (v9, Z9)) : pG 215 0 (mjEnt [.ref 211, .int p0] (mjML 215)) [] (mjTo Z) (fun r M1 => r = none ∧ M1 = mjTo Z9) := by
  unfold f215_waitsFor at h
  show pG 215 0 [some (.ref 211), some (.int p0)] [] (mjTo Z) _
  refine pG_many 1 (pc1 := 1) (L1 := [some (.ref 211), some (.int p0)]) (st1 := [.ref 211]) (M1 := mjTo Z) rfl ?_
  refine pG_getR (ci := 12) (f := 16) (b := 217) rfl rfl rfl (by rfl) rfl ?_
  refine pG_many 1 (pc1 := 5) (L1 := [some (.ref 211), some (.int p0)]) (st1 := [.ref 211, .ref 217]) (M1 := mjTo Z) rfl ?_
  refine pG_getI (ci := 12) (f := 18) rfl rfl (Or.inl rfl) (by rfl) ?_
  refine pG_many 1 (pc1 := 9) (L1 := [some (.ref 211), some (.int p0)]) (st1 := [.int p0, .int (Z.1 211 18), .ref 217]) (M1 := mjTo Z) rfl ?_
  have hk101 : mjIn (Z.1 211 18) 800 = true := by
    by_cases q9 : mjIn (Z.1 211 18) 800 = true
    · exact q9
    · rw [if_neg q9] at h; cases h
  rw [if_pos hk101] at h
  refine pG_ias rfl (by rfl) hk101 (?_ : pG 215 10 [some (.ref 211), some (.int p0)] [] (mjTo (zSi Z 217 (mjIx (Z.1 211 18)) p0)) _)
  rw [mjLet] at h
  generalize zSi Z 217 (mjIx (Z.1 211 18)) p0 = Z102 at h ⊢
  refine pG_many 2 (pc1 := 12) (L1 := [some (.ref 211), some (.int p0)]) (st1 := [.ref 211, .ref 211]) (M1 := mjTo Z102) rfl ?_
  refine pG_getI (ci := 12) (f := 18) rfl rfl (Or.inl rfl) (by rfl) ?_
  refine pG_many 2 (pc1 := 17) (L1 := [some (.ref 211), some (.int p0)]) (st1 := [.int ((Z102.1 211 18) + 1), .ref 211]) (M1 := mjTo Z102) rfl ?_
  refine pG_putI (ci := 12) (f := 18) rfl rfl rfl rfl (by rfl) ?_
  rw [mjLet] at h
  generalize zSi Z102 211 18 ((Z102.1 211 18) + 1) = Z103 at h ⊢
  simp only [Option.some.injEq, Prod.mk.injEq] at h
  obtain ⟨-, rfl⟩ := h
  exact pG_ret (r := none) rfl ⟨rfl, rfl⟩
def f216_top  (Z : mjZt) : Option Int32 :=
  if mjCmp .le (Z.1 211 18) (Z.1 211 19) = true then
    some ((-1))
  else
    if mjIn ((Z.1 211 18) - 1) 800 = true then
    some (Z.1 217 (mjIx ((Z.1 211 18) - 1)))
    else none
theorem f216_top_ok  {Z : mjZt} {v9 : Int32} (h : f216_top  Z = some v9) : pG 216 0 (mjEnt [.ref 211] (mjML 216)) [] (mjTo Z) (fun r M1 => r = some (.int v9) ∧ M1 = mjTo Z) := by
  unfold f216_top at h
  show pG 216 0 [some (.ref 211)] [] (mjTo Z) _
  refine pG_many 1 (pc1 := 1) (L1 := [some (.ref 211)]) (st1 := [.ref 211]) (M1 := mjTo Z) rfl ?_
  refine pG_getI (ci := 12) (f := 18) rfl rfl (Or.inl rfl) (by rfl) ?_
  refine pG_many 1 (pc1 := 5) (L1 := [some (.ref 211)]) (st1 := [.ref 211, .int (Z.1 211 18)]) (M1 := mjTo Z) rfl ?_
  refine pG_getI (ci := 12) (f := 19) rfl rfl (Or.inl rfl) (by rfl) ?_
  by_cases hc101 : mjCmp .le (Z.1 211 18) (Z.1 211 19) = true
  · rw [if_pos hc101] at h
    refine pG_cmt (t := 25) rfl rfl hc101 ?_
    refine pG_many 1 (pc1 := 26) (L1 := [some (.ref 211)]) (st1 := [.int ((-1))]) (M1 := mjTo Z) rfl ?_
    simp only [Option.some.injEq] at h
    subst h
    exact pG_ret (r := some (.int ((-1)))) rfl ⟨rfl, rfl⟩
  · rw [if_neg hc101] at h
    refine pG_cmf (t := 25) rfl rfl hc101 ?_
    refine pG_many 1 (pc1 := 12) (L1 := [some (.ref 211)]) (st1 := [.ref 211]) (M1 := mjTo Z) rfl ?_
    refine pG_getR (ci := 12) (f := 16) (b := 217) rfl rfl rfl (by rfl) rfl ?_
    refine pG_many 1 (pc1 := 16) (L1 := [some (.ref 211)]) (st1 := [.ref 211, .ref 217]) (M1 := mjTo Z) rfl ?_
    refine pG_getI (ci := 12) (f := 18) rfl rfl (Or.inl rfl) (by rfl) ?_
    refine pG_many 2 (pc1 := 21) (L1 := [some (.ref 211)]) (st1 := [.int ((Z.1 211 18) - 1), .ref 217]) (M1 := mjTo Z) rfl ?_
    have hk102 : mjIn ((Z.1 211 18) - 1) 800 = true := by
      by_cases q9 : mjIn ((Z.1 211 18) - 1) 800 = true
      · exact q9
      · rw [if_neg q9] at h; cases h
    rw [if_pos hk102] at h
    refine pG_ial rfl (by rfl) hk102 ?_
    refine pG_many 1 (pc1 := 26) (L1 := [some (.ref 211)]) (st1 := [.int (Z.1 217 (mjIx ((Z.1 211 18) - 1)))]) (M1 := mjTo Z) rfl ?_
    simp only [Option.some.injEq] at h
    subst h
    exact pG_ret (r := some (.int (Z.1 217 (mjIx ((Z.1 211 18) - 1))))) rfl ⟨rfl, rfl⟩
def f217_opens_j15 (x1 : Int32) (Z : mjZt) : Option (Unit × mjZt) :=
  mjLet (zSi Z 211 20 ((Z.1 211 20) + 1)) fun Z102 =>
  mjBd (f215_waitsFor x1 Z102) fun _ Z105 =>
  mjBp (f207_isGood  Z105) fun v107 =>
  if mjCmp .eq v107 0 = true then
    some ((), Z105)
  else
    mjBd (f205_goOn  Z105) fun _ Z112 =>
    some ((), Z112)
theorem f217_opens_j15_ok (x1 : Int32) (Z : mjZt) (v9 : Unit) (Z9 : mjZt) (h : f217_opens_j15 x1 Z = some (v9, Z9)) : pG 217 15 [some (.ref 211), some (.int x1)] [] (mjTo Z) (fun r M1 => r = none ∧ M1 = mjTo Z9) := by
  unfold f217_opens_j15 at h
  refine pG_many 2 (pc1 := 17) (L1 := [some (.ref 211), some (.int x1)]) (st1 := [.ref 211, .ref 211]) (M1 := mjTo Z) rfl ?_
  refine pG_getI (ci := 12) (f := 20) rfl rfl (Or.inl rfl) (by rfl) ?_
  refine pG_many 2 (pc1 := 22) (L1 := [some (.ref 211), some (.int x1)]) (st1 := [.int ((Z.1 211 20) + 1), .ref 211]) (M1 := mjTo Z) rfl ?_
  refine pG_putI (ci := 12) (f := 20) rfl rfl rfl rfl (by rfl) ?_
  rw [mjLet] at h
  generalize zSi Z 211 20 ((Z.1 211 20) + 1) = Z102 at h ⊢
  refine pG_many 2 (pc1 := 27) (L1 := [some (.ref 211), some (.int x1)]) (st1 := [.int x1, .ref 211]) (M1 := mjTo Z102) rfl ?_
  cases hq103 : f215_waitsFor x1 Z102 with
  | none => rw [hq103] at h; cases h
  | some w =>
    obtain ⟨v104, Z105⟩ := w
    rw [hq103, mjBd_some] at h
    refine pG_callV (k2 := 215) (As := [.ref 211, .int x1]) (rest := []) rfl rfl rfl rfl rfl (by rfl) (by decide) (f215_waitsFor_ok hq103) ?_
    rintro r9 M9 ⟨rfl, rfl⟩
    show pG 217 30 [some (.ref 211), some (.int x1)] [] (mjTo Z105) _
    refine pG_many 1 (pc1 := 31) (L1 := [some (.ref 211), some (.int x1)]) (st1 := [.ref 211]) (M1 := mjTo Z105) rfl ?_
    cases hq106 : f207_isGood  Z105 with
    | none => rw [hq106] at h; cases h
    | some v107 =>
      rw [hq106, mjBp_some] at h
      refine pG_callV (k2 := 207) (As := [.ref 211]) (rest := []) rfl rfl rfl rfl rfl (by rfl) (by decide) (f207_isGood_ok hq106) ?_
      rintro r9 M9 ⟨rfl, rfl⟩
      show pG 217 34 [some (.ref 211), some (.int x1)] [.int v107] (mjTo Z105) _
      by_cases hc109 : mjCmp .eq v107 0 = true
      · rw [if_pos hc109] at h
        refine pG_ift (t := 41) rfl rfl hc109 ?_
        simp only [Option.some.injEq, Prod.mk.injEq] at h
        obtain ⟨-, rfl⟩ := h
        exact pG_ret (r := none) rfl ⟨rfl, rfl⟩
      · rw [if_neg hc109] at h
        refine pG_iff (t := 41) rfl rfl hc109 ?_
        refine pG_many 1 (pc1 := 38) (L1 := [some (.ref 211), some (.int x1)]) (st1 := [.ref 211]) (M1 := mjTo Z105) rfl ?_
        cases hq110 : f205_goOn  Z105 with
        | none => rw [hq110] at h; cases h
        | some w =>
          obtain ⟨v111, Z112⟩ := w
          rw [hq110, mjBd_some] at h
          refine pG_callV (k2 := 205) (As := [.ref 211]) (rest := []) rfl rfl rfl rfl rfl (by rfl) (by decide) (f205_goOn_ok hq110) ?_
          rintro r9 M9 ⟨rfl, rfl⟩
          show pG 217 41 [some (.ref 211), some (.int x1)] [] (mjTo Z112) _
          simp only [Option.some.injEq, Prod.mk.injEq] at h
          obtain ⟨-, rfl⟩ := h
          exact pG_ret (r := none) rfl ⟨rfl, rfl⟩
def f217_opens (p0 : Int32) (Z : mjZt) : Option (Unit × mjZt) :=
  if mjCmp .ne (Z.1 211 20) 6 = true then
    f217_opens_j15 p0 Z
  else
    mjBd (f206_wrong 7 Z) fun _ Z115 =>
    f217_opens_j15 p0 Z115
theorem f217_opens_ok {p0 : Int32} {Z : mjZt} {v9 : Unit} {Z9 : mjZt} (h : f217_opens p0 Z = some (v9, Z9)) : pG 217 0 (mjEnt [.ref 211, .int p0] (mjML 217)) [] (mjTo Z) (fun r M1 => r = none ∧ M1 = mjTo Z9) := by
  unfold f217_opens at h
  show pG 217 0 [some (.ref 211), some (.int p0)] [] (mjTo Z) _
  refine pG_many 1 (pc1 := 1) (L1 := [some (.ref 211), some (.int p0)]) (st1 := [.ref 211]) (M1 := mjTo Z) rfl ?_
  refine pG_getI (ci := 12) (f := 20) rfl rfl (Or.inl rfl) (by rfl) ?_
  refine pG_many 1 (pc1 := 6) (L1 := [some (.ref 211), some (.int p0)]) (st1 := [.int 6, .int (Z.1 211 20)]) (M1 := mjTo Z) rfl ?_
  by_cases hc101 : mjCmp .ne (Z.1 211 20) 6 = true
  · rw [if_pos hc101] at h
    refine pG_cmt (t := 15) rfl rfl hc101 ?_
    exact f217_opens_j15_ok p0 Z v9 Z9 h
  · rw [if_neg hc101] at h
    refine pG_cmf (t := 15) rfl rfl hc101 ?_
    refine pG_many 2 (pc1 := 12) (L1 := [some (.ref 211), some (.int p0)]) (st1 := [.int 7, .ref 211]) (M1 := mjTo Z) rfl ?_
    cases hq113 : f206_wrong 7 Z with
    | none => rw [hq113] at h; cases h
    | some w =>
      obtain ⟨v114, Z115⟩ := w
      rw [hq113, mjBd_some] at h
      refine pG_callV (k2 := 206) (As := [.ref 211, .int 7]) (rest := []) rfl rfl rfl rfl rfl (by rfl) (by decide) (f206_wrong_ok hq113) ?_
      rintro r9 M9 ⟨rfl, rfl⟩
      show pG 217 15 [some (.ref 211), some (.int p0)] [] (mjTo Z115) _
      exact f217_opens_j15_ok p0 Z115 v9 Z9 h
def f218_works_h0 : Nat → Int32 → Int32 → mjZt → Option (Unit × mjZt)
  | 0, _, _, _ => none
  | n + 1, x1, x2, Z =>
    mjBp (f216_top  Z) fun v102 =>
    mjBp (f195_isIn (Int32.toInt64 v102) (Int32.toInt64 x1) (Int32.toInt64 x2) Z) fun v105 =>
    if mjCmp .eq v105 0 = true then
      some ((), Z)
    else
      mjLet (zSi Z 211 18 ((Z.1 211 18) - 1)) fun Z108 =>
      if mjIn (Z108.1 211 18) 800 = true then
      mjBd (f214_emits (Z108.1 217 (mjIx (Z108.1 211 18))) Z108) fun _ Z112 =>
      f218_works_h0 n x1 x2 Z112
      else none
theorem f218_works_h0_ok : ∀ (n : Nat) (x1 : Int32) (x2 : Int32) (Z : mjZt) (v9 : Unit) (Z9 : mjZt), f218_works_h0 n x1 x2 Z = some (v9, Z9) → pG 218 0 [some (.ref 211), some (.int x1), some (.int x2)] [] (mjTo Z) (fun r M1 => r = none ∧ M1 = mjTo Z9)
  | 0, x1, x2, Z, v9, Z9, h => by rw [f218_works_h0] at h; cases h
  | n + 1, x1, x2, Z, v9, Z9, h => by
      rw [f218_works_h0] at h
      refine pG_many 1 (pc1 := 1) (L1 := [some (.ref 211), some (.int x1), some (.int x2)]) (st1 := [.ref 211]) (M1 := mjTo Z) rfl ?_
      cases hq101 : f216_top  Z with
      | none => rw [hq101] at h; cases h
      | some v102 =>
        rw [hq101, mjBp_some] at h
        refine pG_callV (k2 := 216) (As := [.ref 211]) (rest := []) rfl rfl rfl rfl rfl (by rfl) (by decide) (f216_top_ok hq101) ?_
        rintro r9 M9 ⟨rfl, rfl⟩
        show pG 218 4 [some (.ref 211), some (.int x1), some (.int x2)] [.int v102] (mjTo Z) _
        refine pG_many 5 (pc1 := 9) (L1 := [some (.ref 211), some (.int x1), some (.int x2)]) (st1 := [.long (Int32.toInt64 x2), .long (Int32.toInt64 x1), .long (Int32.toInt64 v102)]) (M1 := mjTo Z) rfl ?_
        cases hq104 : f195_isIn (Int32.toInt64 v102) (Int32.toInt64 x1) (Int32.toInt64 x2) Z with
        | none => rw [hq104] at h; cases h
        | some v105 =>
          rw [hq104, mjBp_some] at h
          refine pG_call (k2 := 195) (As := [.long (Int32.toInt64 v102), .long (Int32.toInt64 x1), .long (Int32.toInt64 x2)]) (rest := []) rfl (by decide) (f195_isIn_ok hq104) ?_
          rintro r9 M9 ⟨rfl, rfl⟩
          show pG 218 12 [some (.ref 211), some (.int x1), some (.int x2)] [.int v105] (mjTo Z) _
          by_cases hc107 : mjCmp .eq v105 0 = true
          · rw [if_pos hc107] at h
            refine pG_ift (t := 41) rfl rfl hc107 ?_
            simp only [Option.some.injEq, Prod.mk.injEq] at h
            obtain ⟨-, rfl⟩ := h
            exact pG_ret (r := none) rfl ⟨rfl, rfl⟩
          · rw [if_neg hc107] at h
            refine pG_iff (t := 41) rfl rfl hc107 ?_
            refine pG_many 2 (pc1 := 17) (L1 := [some (.ref 211), some (.int x1), some (.int x2)]) (st1 := [.ref 211, .ref 211]) (M1 := mjTo Z) rfl ?_
            refine pG_getI (ci := 12) (f := 18) rfl rfl (Or.inl rfl) (by rfl) ?_
            refine pG_many 2 (pc1 := 22) (L1 := [some (.ref 211), some (.int x1), some (.int x2)]) (st1 := [.int ((Z.1 211 18) - 1), .ref 211]) (M1 := mjTo Z) rfl ?_
            refine pG_putI (ci := 12) (f := 18) rfl rfl rfl rfl (by rfl) ?_
            rw [mjLet] at h
            generalize zSi Z 211 18 ((Z.1 211 18) - 1) = Z108 at h ⊢
            refine pG_many 2 (pc1 := 27) (L1 := [some (.ref 211), some (.int x1), some (.int x2)]) (st1 := [.ref 211, .ref 211]) (M1 := mjTo Z108) rfl ?_
            refine pG_getR (ci := 12) (f := 16) (b := 217) rfl rfl rfl (by rfl) rfl ?_
            refine pG_many 1 (pc1 := 31) (L1 := [some (.ref 211), some (.int x1), some (.int x2)]) (st1 := [.ref 211, .ref 217, .ref 211]) (M1 := mjTo Z108) rfl ?_
            refine pG_getI (ci := 12) (f := 18) rfl rfl (Or.inl rfl) (by rfl) ?_
            have hk109 : mjIn (Z108.1 211 18) 800 = true := by
              by_cases q9 : mjIn (Z108.1 211 18) 800 = true
              · exact q9
              · rw [if_neg q9] at h; cases h
            rw [if_pos hk109] at h
            refine pG_ial rfl (by rfl) hk109 ?_
            cases hq110 : f214_emits (Z108.1 217 (mjIx (Z108.1 211 18))) Z108 with
            | none => rw [hq110] at h; cases h
            | some w =>
              obtain ⟨v111, Z112⟩ := w
              rw [hq110, mjBd_some] at h
              refine pG_callV (k2 := 214) (As := [.ref 211, .int (Z108.1 217 (mjIx (Z108.1 211 18)))]) (rest := []) rfl rfl rfl rfl rfl (by rfl) (by decide) (f214_emits_ok hq110) ?_
              rintro r9 M9 ⟨rfl, rfl⟩
              show pG 218 38 [some (.ref 211), some (.int x1), some (.int x2)] [] (mjTo Z112) _
              refine pG_many 1 (pc1 := 0) (L1 := [some (.ref 211), some (.int x1), some (.int x2)]) (st1 := []) (M1 := mjTo Z112) rfl ?_
              exact f218_works_h0_ok n x1 x2 Z112 v9 Z9 h
def f218_works (p0 : Int32) (p1 : Int32) (Z : mjZt) : Option (Unit × mjZt) :=
  f218_works_h0 mjF p0 p1 Z
theorem f218_works_ok {p0 : Int32} {p1 : Int32} {Z : mjZt} {v9 : Unit} {Z9 : mjZt} (h : f218_works p0 p1 Z = some (v9, Z9)) : pG 218 0 (mjEnt [.ref 211, .int p0, .int p1] (mjML 218)) [] (mjTo Z) (fun r M1 => r = none ∧ M1 = mjTo Z9) := by
  unfold f218_works at h
  show pG 218 0 [some (.ref 211), some (.int p0), some (.int p1)] [] (mjTo Z) _
  exact f218_works_h0_ok mjF p0 p1 Z v9 Z9 h
def f219_operand_j70 (x1 : Int32) (Z : mjZt) : Option (Unit × mjZt) :=
  if mjCmp .le (Z.1 211 9) 0 = true then
    if mjCmp .ne (Z.1 211 7) 2 = true then
      mjBd (f214_emits (x1 + 1) Z) fun _ Z112 =>
      mjBd (f205_goOn  Z112) fun _ Z115 =>
      some ((), Z115)
    else
      mjBd (f214_emits (100 + (Z.1 211 8)) Z) fun _ Z118 =>
      mjBd (f205_goOn  Z118) fun _ Z121 =>
      some ((), Z121)
  else
    some ((), Z)
theorem f219_operand_j70_ok (x1 : Int32) (Z : mjZt) (v9 : Unit) (Z9 : mjZt) (h : f219_operand_j70 x1 Z = some (v9, Z9)) : pG 219 70 [some (.ref 211), some (.int x1)] [] (mjTo Z) (fun r M1 => r = none ∧ M1 = mjTo Z9) := by
  unfold f219_operand_j70 at h
  refine pG_many 1 (pc1 := 71) (L1 := [some (.ref 211), some (.int x1)]) (st1 := [.ref 211]) (M1 := mjTo Z) rfl ?_
  refine pG_getI (ci := 12) (f := 9) rfl rfl (Or.inl rfl) (by rfl) ?_
  by_cases hc108 : mjCmp .le (Z.1 211 9) 0 = true
  · rw [if_pos hc108] at h
    refine pG_ift (t := 78) rfl rfl hc108 ?_
    refine pG_many 2 (pc1 := 80) (L1 := [some (.ref 211), some (.int x1)]) (st1 := [.ref 211, .ref 211]) (M1 := mjTo Z) rfl ?_
    refine pG_getI (ci := 12) (f := 7) rfl rfl (Or.inl rfl) (by rfl) ?_
    refine pG_many 1 (pc1 := 84) (L1 := [some (.ref 211), some (.int x1)]) (st1 := [.int 2, .int (Z.1 211 7), .ref 211]) (M1 := mjTo Z) rfl ?_
    by_cases hc109 : mjCmp .ne (Z.1 211 7) 2 = true
    · rw [if_pos hc109] at h
      refine pG_cmt (t := 97) rfl rfl hc109 ?_
      refine pG_many 3 (pc1 := 100) (L1 := [some (.ref 211), some (.int x1)]) (st1 := [.int (x1 + 1), .ref 211]) (M1 := mjTo Z) rfl ?_
      cases hq110 : f214_emits (x1 + 1) Z with
      | none => rw [hq110] at h; cases h
      | some w =>
        obtain ⟨v111, Z112⟩ := w
        rw [hq110, mjBd_some] at h
        refine pG_callV (k2 := 214) (As := [.ref 211, .int (x1 + 1)]) (rest := []) rfl rfl rfl rfl rfl (by rfl) (by decide) (f214_emits_ok hq110) ?_
        rintro r9 M9 ⟨rfl, rfl⟩
        show pG 219 103 [some (.ref 211), some (.int x1)] [] (mjTo Z112) _
        refine pG_many 1 (pc1 := 104) (L1 := [some (.ref 211), some (.int x1)]) (st1 := [.ref 211]) (M1 := mjTo Z112) rfl ?_
        cases hq113 : f205_goOn  Z112 with
        | none => rw [hq113] at h; cases h
        | some w =>
          obtain ⟨v114, Z115⟩ := w
          rw [hq113, mjBd_some] at h
          refine pG_callV (k2 := 205) (As := [.ref 211]) (rest := []) rfl rfl rfl rfl rfl (by rfl) (by decide) (f205_goOn_ok hq113) ?_
          rintro r9 M9 ⟨rfl, rfl⟩
          show pG 219 107 [some (.ref 211), some (.int x1)] [] (mjTo Z115) _
          simp only [Option.some.injEq, Prod.mk.injEq] at h
          obtain ⟨-, rfl⟩ := h
          exact pG_ret (r := none) rfl ⟨rfl, rfl⟩
    · rw [if_neg hc109] at h
      refine pG_cmf (t := 97) rfl rfl hc109 ?_
      refine pG_many 2 (pc1 := 90) (L1 := [some (.ref 211), some (.int x1)]) (st1 := [.ref 211, .int 100, .ref 211]) (M1 := mjTo Z) rfl ?_
      refine pG_getI (ci := 12) (f := 8) rfl rfl (Or.inl rfl) (by rfl) ?_
      refine pG_many 2 (pc1 := 100) (L1 := [some (.ref 211), some (.int x1)]) (st1 := [.int (100 + (Z.1 211 8)), .ref 211]) (M1 := mjTo Z) rfl ?_
      cases hq116 : f214_emits (100 + (Z.1 211 8)) Z with
      | none => rw [hq116] at h; cases h
      | some w =>
        obtain ⟨v117, Z118⟩ := w
        rw [hq116, mjBd_some] at h
        refine pG_callV (k2 := 214) (As := [.ref 211, .int (100 + (Z.1 211 8))]) (rest := []) rfl rfl rfl rfl rfl (by rfl) (by decide) (f214_emits_ok hq116) ?_
        rintro r9 M9 ⟨rfl, rfl⟩
        show pG 219 103 [some (.ref 211), some (.int x1)] [] (mjTo Z118) _
        refine pG_many 1 (pc1 := 104) (L1 := [some (.ref 211), some (.int x1)]) (st1 := [.ref 211]) (M1 := mjTo Z118) rfl ?_
        cases hq119 : f205_goOn  Z118 with
        | none => rw [hq119] at h; cases h
        | some w =>
          obtain ⟨v120, Z121⟩ := w
          rw [hq119, mjBd_some] at h
          refine pG_callV (k2 := 205) (As := [.ref 211]) (rest := []) rfl rfl rfl rfl rfl (by rfl) (by decide) (f205_goOn_ok hq119) ?_
          rintro r9 M9 ⟨rfl, rfl⟩
          show pG 219 107 [some (.ref 211), some (.int x1)] [] (mjTo Z121) _
          simp only [Option.some.injEq, Prod.mk.injEq] at h
          obtain ⟨-, rfl⟩ := h
          exact pG_ret (r := none) rfl ⟨rfl, rfl⟩
  · rw [if_neg hc108] at h
    refine pG_iff (t := 78) rfl rfl hc108 ?_
    simp only [Option.some.injEq, Prod.mk.injEq] at h
    obtain ⟨-, rfl⟩ := h
    exact pG_ret (r := none) rfl ⟨rfl, rfl⟩
def f219_operand_j51 (s0 : Int32) (Z : mjZt) : Option (Unit × mjZt) :=
  if mjCmp .eq (Z.1 211 7) 2 = true then
    f219_operand_j70 s0 Z
  else
    if mjCmp .ne s0 ((-1)) = true then
      f219_operand_j70 s0 Z
    else
      mjBd (f206_wrong 2 Z) fun _ Z125 =>
      f219_operand_j70 s0 Z125
theorem f219_operand_j51_ok (s0 : Int32) (d1 : Option Value) (Z : mjZt) (v9 : Unit) (Z9 : mjZt) (h : f219_operand_j51 s0 Z = some (v9, Z9)) : pG 219 51 [some (.ref 211), d1] [.int s0] (mjTo Z) (fun r M1 => r = none ∧ M1 = mjTo Z9) := by
  unfold f219_operand_j51 at h
  refine pG_many 2 (pc1 := 53) (L1 := [some (.ref 211), some (.int s0)]) (st1 := [.ref 211]) (M1 := mjTo Z) rfl ?_
  refine pG_getI (ci := 12) (f := 7) rfl rfl (Or.inl rfl) (by rfl) ?_
  refine pG_many 1 (pc1 := 57) (L1 := [some (.ref 211), some (.int s0)]) (st1 := [.int 2, .int (Z.1 211 7)]) (M1 := mjTo Z) rfl ?_
  by_cases hc107 : mjCmp .eq (Z.1 211 7) 2 = true
  · rw [if_pos hc107] at h
    refine pG_cmt (t := 70) rfl rfl hc107 ?_
    exact f219_operand_j70_ok s0 Z v9 Z9 h
  · rw [if_neg hc107] at h
    refine pG_cmf (t := 70) rfl rfl hc107 ?_
    refine pG_many 2 (pc1 := 62) (L1 := [some (.ref 211), some (.int s0)]) (st1 := [.int ((-1)), .int s0]) (M1 := mjTo Z) rfl ?_
    by_cases hc122 : mjCmp .ne s0 ((-1)) = true
    · rw [if_pos hc122] at h
      refine pG_cmt (t := 70) rfl rfl hc122 ?_
      exact f219_operand_j70_ok s0 Z v9 Z9 h
    · rw [if_neg hc122] at h
      refine pG_cmf (t := 70) rfl rfl hc122 ?_
      refine pG_many 2 (pc1 := 67) (L1 := [some (.ref 211), some (.int s0)]) (st1 := [.int 2, .ref 211]) (M1 := mjTo Z) rfl ?_
      cases hq123 : f206_wrong 2 Z with
      | none => rw [hq123] at h; cases h
      | some w =>
        obtain ⟨v124, Z125⟩ := w
        rw [hq123, mjBd_some] at h
        refine pG_callV (k2 := 206) (As := [.ref 211, .int 2]) (rest := []) rfl rfl rfl rfl rfl (by rfl) (by decide) (f206_wrong_ok hq123) ?_
        rintro r9 M9 ⟨rfl, rfl⟩
        show pG 219 70 [some (.ref 211), some (.int s0)] [] (mjTo Z125) _
        exact f219_operand_j70_ok s0 Z125 v9 Z9 h
def f219_operand_h0 : Nat → mjZt → Option (Unit × mjZt)
  | 0, _ => none
  | n + 1, Z =>
    mjBp (f209_isSignHere 123 Z) fun v102 =>
    if mjCmp .eq v102 0 = true then
      if mjCmp .le (Z.1 211 9) 0 = true then
        if mjCmp .ne (Z.1 211 7) 1 = true then
          f219_operand_j51 ((-1)) Z
        else
          mjBp (f210_among 214 11 (Z.2.1 211 13) Z) fun v127 =>
          f219_operand_j51 v127 Z
      else
        some ((), Z)
    else
      mjBd (f217_opens 51 Z) fun _ Z131 =>
      f219_operand_h0 n  Z131
theorem f219_operand_h0_ok : ∀ (n : Nat)  (d1 : Option Value) (Z : mjZt) (v9 : Unit) (Z9 : mjZt), f219_operand_h0 n  Z = some (v9, Z9) → pG 219 0 [some (.ref 211), d1] [] (mjTo Z) (fun r M1 => r = none ∧ M1 = mjTo Z9)
  | 0, d1, Z, v9, Z9, h => by rw [f219_operand_h0] at h; cases h
  | n + 1, d1, Z, v9, Z9, h => by
      rw [f219_operand_h0] at h
      refine pG_many 2 (pc1 := 3) (L1 := [some (.ref 211), d1]) (st1 := [.int 123, .ref 211]) (M1 := mjTo Z) rfl ?_
      cases hq101 : f209_isSignHere 123 Z with
      | none => rw [hq101] at h; cases h
      | some v102 =>
        rw [hq101, mjBp_some] at h
        refine pG_callV (k2 := 209) (As := [.ref 211, .int 123]) (rest := []) rfl rfl rfl rfl rfl (by rfl) (by decide) (f209_isSignHere_ok hq101) ?_
        rintro r9 M9 ⟨rfl, rfl⟩
        show pG 219 6 [some (.ref 211), d1] [.int v102] (mjTo Z) _
        by_cases hc104 : mjCmp .eq v102 0 = true
        · rw [if_pos hc104] at h
          refine pG_ift (t := 18) rfl rfl hc104 ?_
          refine pG_many 1 (pc1 := 19) (L1 := [some (.ref 211), d1]) (st1 := [.ref 211]) (M1 := mjTo Z) rfl ?_
          refine pG_getI (ci := 12) (f := 9) rfl rfl (Or.inl rfl) (by rfl) ?_
          by_cases hc105 : mjCmp .le (Z.1 211 9) 0 = true
          · rw [if_pos hc105] at h
            refine pG_ift (t := 26) rfl rfl hc105 ?_
            refine pG_many 1 (pc1 := 27) (L1 := [some (.ref 211), d1]) (st1 := [.ref 211]) (M1 := mjTo Z) rfl ?_
            refine pG_getI (ci := 12) (f := 7) rfl rfl (Or.inl rfl) (by rfl) ?_
            refine pG_many 1 (pc1 := 31) (L1 := [some (.ref 211), d1]) (st1 := [.int 1, .int (Z.1 211 7)]) (M1 := mjTo Z) rfl ?_
            by_cases hc106 : mjCmp .ne (Z.1 211 7) 1 = true
            · rw [if_pos hc106] at h
              refine pG_cmt (t := 50) rfl rfl hc106 ?_
              refine pG_many 1 (pc1 := 51) (L1 := [some (.ref 211), d1]) (st1 := [.int ((-1))]) (M1 := mjTo Z) rfl ?_
              exact f219_operand_j51_ok ((-1)) d1 Z v9 Z9 h
            · rw [if_neg hc106] at h
              refine pG_cmf (t := 50) rfl rfl hc106 ?_
              refine pG_many 1 (pc1 := 35) (L1 := [some (.ref 211), d1]) (st1 := [.ref 211]) (M1 := mjTo Z) rfl ?_
              refine pG_getR (ci := 12) (f := 3) (b := 214) rfl rfl rfl (by rfl) rfl ?_
              refine pG_many 2 (pc1 := 41) (L1 := [some (.ref 211), d1]) (st1 := [.ref 211, .int 11, .ref 214]) (M1 := mjTo Z) rfl ?_
              refine pG_getL (ci := 12) (f := 13) rfl rfl rfl (by rfl) ?_
              cases hq126 : f210_among 214 11 (Z.2.1 211 13) Z with
              | none => rw [hq126] at h; cases h
              | some v127 =>
                rw [hq126, mjBp_some] at h
                refine pG_call (k2 := 210) (As := [.ref 214, .int 11, .long (Z.2.1 211 13)]) (rest := []) rfl (by decide) (f210_among_ok hq126) ?_
                rintro r9 M9 ⟨rfl, rfl⟩
                show pG 219 47 [some (.ref 211), d1] [.int v127] (mjTo Z) _
                refine pG_many 1 (pc1 := 51) (L1 := [some (.ref 211), d1]) (st1 := [.int v127]) (M1 := mjTo Z) rfl ?_
                exact f219_operand_j51_ok v127 d1 Z v9 Z9 h
          · rw [if_neg hc105] at h
            refine pG_iff (t := 26) rfl rfl hc105 ?_
            simp only [Option.some.injEq, Prod.mk.injEq] at h
            obtain ⟨-, rfl⟩ := h
            exact pG_ret (r := none) rfl ⟨rfl, rfl⟩
        · rw [if_neg hc104] at h
          refine pG_iff (t := 18) rfl rfl hc104 ?_
          refine pG_many 2 (pc1 := 12) (L1 := [some (.ref 211), d1]) (st1 := [.int 51, .ref 211]) (M1 := mjTo Z) rfl ?_
          cases hq129 : f217_opens 51 Z with
          | none => rw [hq129] at h; cases h
          | some w =>
            obtain ⟨v130, Z131⟩ := w
            rw [hq129, mjBd_some] at h
            refine pG_callV (k2 := 217) (As := [.ref 211, .int 51]) (rest := []) rfl rfl rfl rfl rfl (by rfl) (by decide) (f217_opens_ok hq129) ?_
            rintro r9 M9 ⟨rfl, rfl⟩
            show pG 219 15 [some (.ref 211), d1] [] (mjTo Z131) _
            refine pG_many 1 (pc1 := 0) (L1 := [some (.ref 211), d1]) (st1 := []) (M1 := mjTo Z131) rfl ?_
            exact f219_operand_h0_ok n d1 Z131 v9 Z9 h
def f219_operand  (Z : mjZt) : Option (Unit × mjZt) :=
  f219_operand_h0 mjF  Z
theorem f219_operand_ok  {Z : mjZt} {v9 : Unit} {Z9 : mjZt} (h : f219_operand  Z = some (v9, Z9)) : pG 219 0 (mjEnt [.ref 211] (mjML 219)) [] (mjTo Z) (fun r M1 => r = none ∧ M1 = mjTo Z9) := by
  unfold f219_operand at h
  show pG 219 0 [some (.ref 211), none] [] (mjTo Z) _
  exact f219_operand_h0_ok mjF none Z v9 Z9 h
def f220_closes_j13  (Z : mjZt) : Option (Unit × mjZt) :=
  if mjCmp .le (Z.1 211 9) 0 = true then
    mjLet (zSi Z 211 18 ((Z.1 211 18) - 1)) fun Z106 =>
    mjLet (zSi Z106 211 20 ((Z106.1 211 20) - 1)) fun Z107 =>
    mjBd (f205_goOn  Z107) fun _ Z110 =>
    some ((), Z110)
  else
    some ((), Z)
theorem f220_closes_j13_ok  (d1 : Option Value) (Z : mjZt) (v9 : Unit) (Z9 : mjZt) (h : f220_closes_j13  Z = some (v9, Z9)) : pG 220 13 [some (.ref 211), d1] [] (mjTo Z) (fun r M1 => r = none ∧ M1 = mjTo Z9) := by
  unfold f220_closes_j13 at h
  refine pG_many 1 (pc1 := 14) (L1 := [some (.ref 211), d1]) (st1 := [.ref 211]) (M1 := mjTo Z) rfl ?_
  refine pG_getI (ci := 12) (f := 9) rfl rfl (Or.inl rfl) (by rfl) ?_
  by_cases hc105 : mjCmp .le (Z.1 211 9) 0 = true
  · rw [if_pos hc105] at h
    refine pG_ift (t := 21) rfl rfl hc105 ?_
    refine pG_many 2 (pc1 := 23) (L1 := [some (.ref 211), d1]) (st1 := [.ref 211, .ref 211]) (M1 := mjTo Z) rfl ?_
    refine pG_getI (ci := 12) (f := 18) rfl rfl (Or.inl rfl) (by rfl) ?_
    refine pG_many 2 (pc1 := 28) (L1 := [some (.ref 211), d1]) (st1 := [.int ((Z.1 211 18) - 1), .ref 211]) (M1 := mjTo Z) rfl ?_
    refine pG_putI (ci := 12) (f := 18) rfl rfl rfl rfl (by rfl) ?_
    rw [mjLet] at h
    generalize zSi Z 211 18 ((Z.1 211 18) - 1) = Z106 at h ⊢
    refine pG_many 2 (pc1 := 33) (L1 := [some (.ref 211), d1]) (st1 := [.ref 211, .ref 211]) (M1 := mjTo Z106) rfl ?_
    refine pG_getI (ci := 12) (f := 20) rfl rfl (Or.inl rfl) (by rfl) ?_
    refine pG_many 2 (pc1 := 38) (L1 := [some (.ref 211), d1]) (st1 := [.int ((Z106.1 211 20) - 1), .ref 211]) (M1 := mjTo Z106) rfl ?_
    refine pG_putI (ci := 12) (f := 20) rfl rfl rfl rfl (by rfl) ?_
    rw [mjLet] at h
    generalize zSi Z106 211 20 ((Z106.1 211 20) - 1) = Z107 at h ⊢
    refine pG_many 1 (pc1 := 42) (L1 := [some (.ref 211), d1]) (st1 := [.ref 211]) (M1 := mjTo Z107) rfl ?_
    cases hq108 : f205_goOn  Z107 with
    | none => rw [hq108] at h; cases h
    | some w =>
      obtain ⟨v109, Z110⟩ := w
      rw [hq108, mjBd_some] at h
      refine pG_callV (k2 := 205) (As := [.ref 211]) (rest := []) rfl rfl rfl rfl rfl (by rfl) (by decide) (f205_goOn_ok hq108) ?_
      rintro r9 M9 ⟨rfl, rfl⟩
      show pG 220 45 [some (.ref 211), d1] [] (mjTo Z110) _
      simp only [Option.some.injEq, Prod.mk.injEq] at h
      obtain ⟨-, rfl⟩ := h
      exact pG_ret (r := none) rfl ⟨rfl, rfl⟩
  · rw [if_neg hc105] at h
    refine pG_iff (t := 21) rfl rfl hc105 ?_
    simp only [Option.some.injEq, Prod.mk.injEq] at h
    obtain ⟨-, rfl⟩ := h
    exact pG_ret (r := none) rfl ⟨rfl, rfl⟩
def f220_closes (p0 : Int32) (Z : mjZt) : Option (Unit × mjZt) :=
  mjBp (f209_isSignHere p0 Z) fun v102 =>
  if mjCmp .ne v102 0 = true then
    f220_closes_j13  Z
  else
    mjBd (f206_wrong 2 Z) fun _ Z113 =>
    f220_closes_j13  Z113
theorem f220_closes_ok {p0 : Int32} {Z : mjZt} {v9 : Unit} {Z9 : mjZt} (h : f220_closes p0 Z = some (v9, Z9)) : pG 220 0 (mjEnt [.ref 211, .int p0] (mjML 220)) [] (mjTo Z) (fun r M1 => r = none ∧ M1 = mjTo Z9) := by
  unfold f220_closes at h
  show pG 220 0 [some (.ref 211), some (.int p0)] [] (mjTo Z) _
  refine pG_many 2 (pc1 := 2) (L1 := [some (.ref 211), some (.int p0)]) (st1 := [.int p0, .ref 211]) (M1 := mjTo Z) rfl ?_
  cases hq101 : f209_isSignHere p0 Z with
  | none => rw [hq101] at h; cases h
  | some v102 =>
    rw [hq101, mjBp_some] at h
    refine pG_callV (k2 := 209) (As := [.ref 211, .int p0]) (rest := []) rfl rfl rfl rfl rfl (by rfl) (by decide) (f209_isSignHere_ok hq101) ?_
    rintro r9 M9 ⟨rfl, rfl⟩
    show pG 220 5 [some (.ref 211), some (.int p0)] [.int v102] (mjTo Z) _
    by_cases hc104 : mjCmp .ne v102 0 = true
    · rw [if_pos hc104] at h
      refine pG_ift (t := 13) rfl rfl hc104 ?_
      exact f220_closes_j13_ok (some (.int p0)) Z v9 Z9 h
    · rw [if_neg hc104] at h
      refine pG_iff (t := 13) rfl rfl hc104 ?_
      refine pG_many 2 (pc1 := 10) (L1 := [some (.ref 211), some (.int p0)]) (st1 := [.int 2, .ref 211]) (M1 := mjTo Z) rfl ?_
      cases hq111 : f206_wrong 2 Z with
      | none => rw [hq111] at h; cases h
      | some w =>
        obtain ⟨v112, Z113⟩ := w
        rw [hq111, mjBd_some] at h
        refine pG_callV (k2 := 206) (As := [.ref 211, .int 2]) (rest := []) rfl rfl rfl rfl rfl (by rfl) (by decide) (f206_wrong_ok hq111) ?_
        rintro r9 M9 ⟨rfl, rfl⟩
        show pG 220 13 [some (.ref 211), some (.int p0)] [] (mjTo Z113) _
        exact f220_closes_j13_ok (some (.int p0)) Z113 v9 Z9 h
def f221_numberFormula_j69 (R : Int32 → mjZt → Option (Unit × mjZt)) (x1 : Int32) (Z : mjZt) : Option (Unit × mjZt) :=
  mjBd (f218_works 21 23 Z) fun _ Z119 =>
  if mjCmp .ne (Z119.1 211 8) 43 = true then
    mjBd (f215_waitsFor 22 Z119) fun _ Z123 =>
    mjBd (f205_goOn  Z123) fun _ Z126 =>
    mjBd (f219_operand  Z126) fun _ Z129 =>
    R x1 Z129
  else
    mjBd (f215_waitsFor 21 Z119) fun _ Z132 =>
    mjBd (f205_goOn  Z132) fun _ Z135 =>
    mjBd (f219_operand  Z135) fun _ Z138 =>
    R x1 Z138
theorem f221_numberFormula_j69_ok (R : Int32 → mjZt → Option (Unit × mjZt)) (hR : ∀ (x1 : Int32) (Z : mjZt) (v9 : Unit) (Z9 : mjZt), R x1 Z = some (v9, Z9) → pG 221 6 [some (.ref 211), some (.int x1)] [] (mjTo Z) (fun r M1 => r = none ∧ M1 = mjTo Z9)) (x1 : Int32) (Z : mjZt) (v9 : Unit) (Z9 : mjZt) (h : f221_numberFormula_j69 R x1 Z = some (v9, Z9)) : pG 221 69 [some (.ref 211), some (.int x1)] [] (mjTo Z) (fun r M1 => r = none ∧ M1 = mjTo Z9) := by
  unfold f221_numberFormula_j69 at h
  refine pG_many 3 (pc1 := 74) (L1 := [some (.ref 211), some (.int x1)]) (st1 := [.int 23, .int 21, .ref 211]) (M1 := mjTo Z) rfl ?_
  cases hq117 : f218_works 21 23 Z with
  | none => rw [hq117] at h; cases h
  | some w =>
    obtain ⟨v118, Z119⟩ := w
    rw [hq117, mjBd_some] at h
    refine pG_callV (k2 := 218) (As := [.ref 211, .int 21, .int 23]) (rest := []) rfl rfl rfl rfl rfl (by rfl) (by decide) (f218_works_ok hq117) ?_
    rintro r9 M9 ⟨rfl, rfl⟩
    show pG 221 77 [some (.ref 211), some (.int x1)] [] (mjTo Z119) _
    refine pG_many 2 (pc1 := 79) (L1 := [some (.ref 211), some (.int x1)]) (st1 := [.ref 211, .ref 211]) (M1 := mjTo Z119) rfl ?_
    refine pG_getI (ci := 12) (f := 8) rfl rfl (Or.inl rfl) (by rfl) ?_
    refine pG_many 1 (pc1 := 84) (L1 := [some (.ref 211), some (.int x1)]) (st1 := [.int 43, .int (Z119.1 211 8), .ref 211]) (M1 := mjTo Z119) rfl ?_
    by_cases hc120 : mjCmp .ne (Z119.1 211 8) 43 = true
    · rw [if_pos hc120] at h
      refine pG_cmt (t := 92) rfl rfl hc120 ?_
      refine pG_many 1 (pc1 := 94) (L1 := [some (.ref 211), some (.int x1)]) (st1 := [.int 22, .ref 211]) (M1 := mjTo Z119) rfl ?_
      cases hq121 : f215_waitsFor 22 Z119 with
      | none => rw [hq121] at h; cases h
      | some w =>
        obtain ⟨v122, Z123⟩ := w
        rw [hq121, mjBd_some] at h
        refine pG_callV (k2 := 215) (As := [.ref 211, .int 22]) (rest := []) rfl rfl rfl rfl rfl (by rfl) (by decide) (f215_waitsFor_ok hq121) ?_
        rintro r9 M9 ⟨rfl, rfl⟩
        show pG 221 97 [some (.ref 211), some (.int x1)] [] (mjTo Z123) _
        refine pG_many 1 (pc1 := 98) (L1 := [some (.ref 211), some (.int x1)]) (st1 := [.ref 211]) (M1 := mjTo Z123) rfl ?_
        cases hq124 : f205_goOn  Z123 with
        | none => rw [hq124] at h; cases h
        | some w =>
          obtain ⟨v125, Z126⟩ := w
          rw [hq124, mjBd_some] at h
          refine pG_callV (k2 := 205) (As := [.ref 211]) (rest := []) rfl rfl rfl rfl rfl (by rfl) (by decide) (f205_goOn_ok hq124) ?_
          rintro r9 M9 ⟨rfl, rfl⟩
          show pG 221 101 [some (.ref 211), some (.int x1)] [] (mjTo Z126) _
          refine pG_many 1 (pc1 := 102) (L1 := [some (.ref 211), some (.int x1)]) (st1 := [.ref 211]) (M1 := mjTo Z126) rfl ?_
          cases hq127 : f219_operand  Z126 with
          | none => rw [hq127] at h; cases h
          | some w =>
            obtain ⟨v128, Z129⟩ := w
            rw [hq127, mjBd_some] at h
            refine pG_callV (k2 := 219) (As := [.ref 211]) (rest := []) rfl rfl rfl rfl rfl (by rfl) (by decide) (f219_operand_ok hq127) ?_
            rintro r9 M9 ⟨rfl, rfl⟩
            show pG 221 105 [some (.ref 211), some (.int x1)] [] (mjTo Z129) _
            refine pG_many 1 (pc1 := 6) (L1 := [some (.ref 211), some (.int x1)]) (st1 := []) (M1 := mjTo Z129) rfl ?_
            exact hR x1 Z129 v9 Z9 h
    · rw [if_neg hc120] at h
      refine pG_cmf (t := 92) rfl rfl hc120 ?_
      refine pG_many 2 (pc1 := 94) (L1 := [some (.ref 211), some (.int x1)]) (st1 := [.int 21, .ref 211]) (M1 := mjTo Z119) rfl ?_
      cases hq130 : f215_waitsFor 21 Z119 with
      | none => rw [hq130] at h; cases h
      | some w =>
        obtain ⟨v131, Z132⟩ := w
        rw [hq130, mjBd_some] at h
        refine pG_callV (k2 := 215) (As := [.ref 211, .int 21]) (rest := []) rfl rfl rfl rfl rfl (by rfl) (by decide) (f215_waitsFor_ok hq130) ?_
        rintro r9 M9 ⟨rfl, rfl⟩
        show pG 221 97 [some (.ref 211), some (.int x1)] [] (mjTo Z132) _
        refine pG_many 1 (pc1 := 98) (L1 := [some (.ref 211), some (.int x1)]) (st1 := [.ref 211]) (M1 := mjTo Z132) rfl ?_
        cases hq133 : f205_goOn  Z132 with
        | none => rw [hq133] at h; cases h
        | some w =>
          obtain ⟨v134, Z135⟩ := w
          rw [hq133, mjBd_some] at h
          refine pG_callV (k2 := 205) (As := [.ref 211]) (rest := []) rfl rfl rfl rfl rfl (by rfl) (by decide) (f205_goOn_ok hq133) ?_
          rintro r9 M9 ⟨rfl, rfl⟩
          show pG 221 101 [some (.ref 211), some (.int x1)] [] (mjTo Z135) _
          refine pG_many 1 (pc1 := 102) (L1 := [some (.ref 211), some (.int x1)]) (st1 := [.ref 211]) (M1 := mjTo Z135) rfl ?_
          cases hq136 : f219_operand  Z135 with
          | none => rw [hq136] at h; cases h
          | some w =>
            obtain ⟨v137, Z138⟩ := w
            rw [hq136, mjBd_some] at h
            refine pG_callV (k2 := 219) (As := [.ref 211]) (rest := []) rfl rfl rfl rfl rfl (by rfl) (by decide) (f219_operand_ok hq136) ?_
            rintro r9 M9 ⟨rfl, rfl⟩
            show pG 221 105 [some (.ref 211), some (.int x1)] [] (mjTo Z138) _
            refine pG_many 1 (pc1 := 6) (L1 := [some (.ref 211), some (.int x1)]) (st1 := []) (M1 := mjTo Z138) rfl ?_
            exact hR x1 Z138 v9 Z9 h
def f221_numberFormula_h6 : Nat → Int32 → mjZt → Option (Unit × mjZt)
  | 0, _, _ => none
  | n + 1, x1, Z =>
    mjBp (f207_isGood  Z) fun v105 =>
    if mjCmp .eq v105 0 = true then
      some ((), Z)
    else
      if mjCmp .eq x1 0 = true then
        some ((), Z)
      else
        mjBp (f209_isSignHere 42 Z) fun v110 =>
        if mjCmp .eq v110 0 = true then
          mjBp (f209_isSignHere 43 Z) fun v114 =>
          if mjCmp .ne v114 0 = true then
            f221_numberFormula_j69 (f221_numberFormula_h6 n) x1 Z
          else
            mjBp (f209_isSignHere 45 Z) fun v140 =>
            if mjCmp .eq v140 0 = true then
              mjBd (f218_works 21 23 Z) fun _ Z145 =>
              mjBp (f216_top  Z145) fun v147 =>
              if mjCmp .ne v147 51 = true then
                if mjCmp .eq 0 0 = true then
                  f221_numberFormula_h6 n 0 Z145
                else
                  mjBd (f220_closes 125 Z145) fun _ Z153 =>
                  f221_numberFormula_h6 n 0 Z153
              else
                if mjCmp .eq 1 0 = true then
                  f221_numberFormula_h6 n 1 Z145
                else
                  mjBd (f220_closes 125 Z145) fun _ Z157 =>
                  f221_numberFormula_h6 n 1 Z157
            else
              f221_numberFormula_j69 (f221_numberFormula_h6 n) x1 Z
        else
          mjBd (f218_works 23 23 Z) fun _ Z160 =>
          mjBd (f215_waitsFor 23 Z160) fun _ Z163 =>
          mjBd (f205_goOn  Z163) fun _ Z166 =>
          mjBd (f219_operand  Z166) fun _ Z169 =>
          f221_numberFormula_h6 n x1 Z169
theorem f221_numberFormula_h6_ok : ∀ (n : Nat) (x1 : Int32) (Z : mjZt) (v9 : Unit) (Z9 : mjZt), f221_numberFormula_h6 n x1 Z = some (v9, Z9) → pG 221 6 [some (.ref 211), some (.int x1)] [] (mjTo Z) (fun r M1 => r = none ∧ M1 = mjTo Z9)
  | 0, x1, Z, v9, Z9, h => by rw [f221_numberFormula_h6] at h; cases h
  | n + 1, x1, Z, v9, Z9, h => by
      rw [f221_numberFormula_h6] at h
      refine pG_many 1 (pc1 := 7) (L1 := [some (.ref 211), some (.int x1)]) (st1 := [.ref 211]) (M1 := mjTo Z) rfl ?_
      cases hq104 : f207_isGood  Z with
      | none => rw [hq104] at h; cases h
      | some v105 =>
        rw [hq104, mjBp_some] at h
        refine pG_callV (k2 := 207) (As := [.ref 211]) (rest := []) rfl rfl rfl rfl rfl (by rfl) (by decide) (f207_isGood_ok hq104) ?_
        rintro r9 M9 ⟨rfl, rfl⟩
        show pG 221 10 [some (.ref 211), some (.int x1)] [.int v105] (mjTo Z) _
        by_cases hc107 : mjCmp .eq v105 0 = true
        · rw [if_pos hc107] at h
          refine pG_ift (t := 144) rfl rfl hc107 ?_
          simp only [Option.some.injEq, Prod.mk.injEq] at h
          obtain ⟨-, rfl⟩ := h
          exact pG_ret (r := none) rfl ⟨rfl, rfl⟩
        · rw [if_neg hc107] at h
          refine pG_iff (t := 144) rfl rfl hc107 ?_
          refine pG_many 1 (pc1 := 14) (L1 := [some (.ref 211), some (.int x1)]) (st1 := [.int x1]) (M1 := mjTo Z) rfl ?_
          by_cases hc108 : mjCmp .eq x1 0 = true
          · rw [if_pos hc108] at h
            refine pG_ift (t := 144) rfl rfl hc108 ?_
            simp only [Option.some.injEq, Prod.mk.injEq] at h
            obtain ⟨-, rfl⟩ := h
            exact pG_ret (r := none) rfl ⟨rfl, rfl⟩
          · rw [if_neg hc108] at h
            refine pG_iff (t := 144) rfl rfl hc108 ?_
            refine pG_many 2 (pc1 := 20) (L1 := [some (.ref 211), some (.int x1)]) (st1 := [.int 42, .ref 211]) (M1 := mjTo Z) rfl ?_
            cases hq109 : f209_isSignHere 42 Z with
            | none => rw [hq109] at h; cases h
            | some v110 =>
              rw [hq109, mjBp_some] at h
              refine pG_callV (k2 := 209) (As := [.ref 211, .int 42]) (rest := []) rfl rfl rfl rfl rfl (by rfl) (by decide) (f209_isSignHere_ok hq109) ?_
              rintro r9 M9 ⟨rfl, rfl⟩
              show pG 221 23 [some (.ref 211), some (.int x1)] [.int v110] (mjTo Z) _
              by_cases hc112 : mjCmp .eq v110 0 = true
              · rw [if_pos hc112] at h
                refine pG_ift (t := 51) rfl rfl hc112 ?_
                refine pG_many 2 (pc1 := 54) (L1 := [some (.ref 211), some (.int x1)]) (st1 := [.int 43, .ref 211]) (M1 := mjTo Z) rfl ?_
                cases hq113 : f209_isSignHere 43 Z with
                | none => rw [hq113] at h; cases h
                | some v114 =>
                  rw [hq113, mjBp_some] at h
                  refine pG_callV (k2 := 209) (As := [.ref 211, .int 43]) (rest := []) rfl rfl rfl rfl rfl (by rfl) (by decide) (f209_isSignHere_ok hq113) ?_
                  rintro r9 M9 ⟨rfl, rfl⟩
                  show pG 221 57 [some (.ref 211), some (.int x1)] [.int v114] (mjTo Z) _
                  by_cases hc116 : mjCmp .ne v114 0 = true
                  · rw [if_pos hc116] at h
                    refine pG_ift (t := 69) rfl rfl hc116 ?_
                    exact f221_numberFormula_j69_ok (f221_numberFormula_h6 n) (fun x1 Z v9 Z9 h => f221_numberFormula_h6_ok n x1 Z v9 Z9 h) x1 Z v9 Z9 h
                  · rw [if_neg hc116] at h
                    refine pG_iff (t := 69) rfl rfl hc116 ?_
                    refine pG_many 2 (pc1 := 63) (L1 := [some (.ref 211), some (.int x1)]) (st1 := [.int 45, .ref 211]) (M1 := mjTo Z) rfl ?_
                    cases hq139 : f209_isSignHere 45 Z with
                    | none => rw [hq139] at h; cases h
                    | some v140 =>
                      rw [hq139, mjBp_some] at h
                      refine pG_callV (k2 := 209) (As := [.ref 211, .int 45]) (rest := []) rfl rfl rfl rfl rfl (by rfl) (by decide) (f209_isSignHere_ok hq139) ?_
                      rintro r9 M9 ⟨rfl, rfl⟩
                      show pG 221 66 [some (.ref 211), some (.int x1)] [.int v140] (mjTo Z) _
                      by_cases hc142 : mjCmp .eq v140 0 = true
                      · rw [if_pos hc142] at h
                        refine pG_ift (t := 108) rfl rfl hc142 ?_
                        refine pG_many 3 (pc1 := 113) (L1 := [some (.ref 211), some (.int x1)]) (st1 := [.int 23, .int 21, .ref 211]) (M1 := mjTo Z) rfl ?_
                        cases hq143 : f218_works 21 23 Z with
                        | none => rw [hq143] at h; cases h
                        | some w =>
                          obtain ⟨v144, Z145⟩ := w
                          rw [hq143, mjBd_some] at h
                          refine pG_callV (k2 := 218) (As := [.ref 211, .int 21, .int 23]) (rest := []) rfl rfl rfl rfl rfl (by rfl) (by decide) (f218_works_ok hq143) ?_
                          rintro r9 M9 ⟨rfl, rfl⟩
                          show pG 221 116 [some (.ref 211), some (.int x1)] [] (mjTo Z145) _
                          refine pG_many 1 (pc1 := 117) (L1 := [some (.ref 211), some (.int x1)]) (st1 := [.ref 211]) (M1 := mjTo Z145) rfl ?_
                          cases hq146 : f216_top  Z145 with
                          | none => rw [hq146] at h; cases h
                          | some v147 =>
                            rw [hq146, mjBp_some] at h
                            refine pG_callV (k2 := 216) (As := [.ref 211]) (rest := []) rfl rfl rfl rfl rfl (by rfl) (by decide) (f216_top_ok hq146) ?_
                            rintro r9 M9 ⟨rfl, rfl⟩
                            show pG 221 120 [some (.ref 211), some (.int x1)] [.int v147] (mjTo Z145) _
                            refine pG_many 1 (pc1 := 122) (L1 := [some (.ref 211), some (.int x1)]) (st1 := [.int 51, .int v147]) (M1 := mjTo Z145) rfl ?_
                            by_cases hc149 : mjCmp .ne v147 51 = true
                            · rw [if_pos hc149] at h
                              refine pG_cmt (t := 129) rfl rfl hc149 ?_
                              refine pG_many 3 (pc1 := 132) (L1 := [some (.ref 211), some (.int 0)]) (st1 := [.int 0]) (M1 := mjTo Z145) rfl ?_
                              by_cases hc150 : mjCmp .eq 0 0 = true
                              · rw [if_pos hc150] at h
                                refine pG_ift (t := 6) rfl rfl hc150 ?_
                                exact f221_numberFormula_h6_ok n 0 Z145 v9 Z9 h
                              · rw [if_neg hc150] at h
                                refine pG_iff (t := 6) rfl rfl hc150 ?_
                                refine pG_many 2 (pc1 := 138) (L1 := [some (.ref 211), some (.int 0)]) (st1 := [.int 125, .ref 211]) (M1 := mjTo Z145) rfl ?_
                                cases hq151 : f220_closes 125 Z145 with
                                | none => rw [hq151] at h; cases h
                                | some w =>
                                  obtain ⟨v152, Z153⟩ := w
                                  rw [hq151, mjBd_some] at h
                                  refine pG_callV (k2 := 220) (As := [.ref 211, .int 125]) (rest := []) rfl rfl rfl rfl rfl (by rfl) (by decide) (f220_closes_ok hq151) ?_
                                  rintro r9 M9 ⟨rfl, rfl⟩
                                  show pG 221 141 [some (.ref 211), some (.int 0)] [] (mjTo Z153) _
                                  refine pG_many 1 (pc1 := 6) (L1 := [some (.ref 211), some (.int 0)]) (st1 := []) (M1 := mjTo Z153) rfl ?_
                                  exact f221_numberFormula_h6_ok n 0 Z153 v9 Z9 h
                            · rw [if_neg hc149] at h
                              refine pG_cmf (t := 129) rfl rfl hc149 ?_
                              refine pG_many 4 (pc1 := 132) (L1 := [some (.ref 211), some (.int 1)]) (st1 := [.int 1]) (M1 := mjTo Z145) rfl ?_
                              by_cases hc154 : mjCmp .eq 1 0 = true
                              · rw [if_pos hc154] at h
                                refine pG_ift (t := 6) rfl rfl hc154 ?_
                                exact f221_numberFormula_h6_ok n 1 Z145 v9 Z9 h
                              · rw [if_neg hc154] at h
                                refine pG_iff (t := 6) rfl rfl hc154 ?_
                                refine pG_many 2 (pc1 := 138) (L1 := [some (.ref 211), some (.int 1)]) (st1 := [.int 125, .ref 211]) (M1 := mjTo Z145) rfl ?_
                                cases hq155 : f220_closes 125 Z145 with
                                | none => rw [hq155] at h; cases h
                                | some w =>
                                  obtain ⟨v156, Z157⟩ := w
                                  rw [hq155, mjBd_some] at h
                                  refine pG_callV (k2 := 220) (As := [.ref 211, .int 125]) (rest := []) rfl rfl rfl rfl rfl (by rfl) (by decide) (f220_closes_ok hq155) ?_
                                  rintro r9 M9 ⟨rfl, rfl⟩
                                  show pG 221 141 [some (.ref 211), some (.int 1)] [] (mjTo Z157) _
                                  refine pG_many 1 (pc1 := 6) (L1 := [some (.ref 211), some (.int 1)]) (st1 := []) (M1 := mjTo Z157) rfl ?_
                                  exact f221_numberFormula_h6_ok n 1 Z157 v9 Z9 h
                      · rw [if_neg hc142] at h
                        refine pG_iff (t := 108) rfl rfl hc142 ?_
                        exact f221_numberFormula_j69_ok (f221_numberFormula_h6 n) (fun x1 Z v9 Z9 h => f221_numberFormula_h6_ok n x1 Z v9 Z9 h) x1 Z v9 Z9 h
              · rw [if_neg hc112] at h
                refine pG_iff (t := 51) rfl rfl hc112 ?_
                refine pG_many 3 (pc1 := 31) (L1 := [some (.ref 211), some (.int x1)]) (st1 := [.int 23, .int 23, .ref 211]) (M1 := mjTo Z) rfl ?_
                cases hq158 : f218_works 23 23 Z with
                | none => rw [hq158] at h; cases h
                | some w =>
                  obtain ⟨v159, Z160⟩ := w
                  rw [hq158, mjBd_some] at h
                  refine pG_callV (k2 := 218) (As := [.ref 211, .int 23, .int 23]) (rest := []) rfl rfl rfl rfl rfl (by rfl) (by decide) (f218_works_ok hq158) ?_
                  rintro r9 M9 ⟨rfl, rfl⟩
                  show pG 221 34 [some (.ref 211), some (.int x1)] [] (mjTo Z160) _
                  refine pG_many 2 (pc1 := 37) (L1 := [some (.ref 211), some (.int x1)]) (st1 := [.int 23, .ref 211]) (M1 := mjTo Z160) rfl ?_
                  cases hq161 : f215_waitsFor 23 Z160 with
                  | none => rw [hq161] at h; cases h
                  | some w =>
                    obtain ⟨v162, Z163⟩ := w
                    rw [hq161, mjBd_some] at h
                    refine pG_callV (k2 := 215) (As := [.ref 211, .int 23]) (rest := []) rfl rfl rfl rfl rfl (by rfl) (by decide) (f215_waitsFor_ok hq161) ?_
                    rintro r9 M9 ⟨rfl, rfl⟩
                    show pG 221 40 [some (.ref 211), some (.int x1)] [] (mjTo Z163) _
                    refine pG_many 1 (pc1 := 41) (L1 := [some (.ref 211), some (.int x1)]) (st1 := [.ref 211]) (M1 := mjTo Z163) rfl ?_
                    cases hq164 : f205_goOn  Z163 with
                    | none => rw [hq164] at h; cases h
                    | some w =>
                      obtain ⟨v165, Z166⟩ := w
                      rw [hq164, mjBd_some] at h
                      refine pG_callV (k2 := 205) (As := [.ref 211]) (rest := []) rfl rfl rfl rfl rfl (by rfl) (by decide) (f205_goOn_ok hq164) ?_
                      rintro r9 M9 ⟨rfl, rfl⟩
                      show pG 221 44 [some (.ref 211), some (.int x1)] [] (mjTo Z166) _
                      refine pG_many 1 (pc1 := 45) (L1 := [some (.ref 211), some (.int x1)]) (st1 := [.ref 211]) (M1 := mjTo Z166) rfl ?_
                      cases hq167 : f219_operand  Z166 with
                      | none => rw [hq167] at h; cases h
                      | some w =>
                        obtain ⟨v168, Z169⟩ := w
                        rw [hq167, mjBd_some] at h
                        refine pG_callV (k2 := 219) (As := [.ref 211]) (rest := []) rfl rfl rfl rfl rfl (by rfl) (by decide) (f219_operand_ok hq167) ?_
                        rintro r9 M9 ⟨rfl, rfl⟩
                        show pG 221 48 [some (.ref 211), some (.int x1)] [] (mjTo Z169) _
                        refine pG_many 1 (pc1 := 6) (L1 := [some (.ref 211), some (.int x1)]) (st1 := []) (M1 := mjTo Z169) rfl ?_
                        exact f221_numberFormula_h6_ok n x1 Z169 v9 Z9 h
def f221_numberFormula  (Z : mjZt) : Option (Unit × mjZt) :=
  mjBd (f219_operand  Z) fun _ Z103 =>
  f221_numberFormula_h6 mjF 1 Z103
theorem f221_numberFormula_ok  {Z : mjZt} {v9 : Unit} {Z9 : mjZt} (h : f221_numberFormula  Z = some (v9, Z9)) : pG 221 0 (mjEnt [.ref 211] (mjML 221)) [] (mjTo Z) (fun r M1 => r = none ∧ M1 = mjTo Z9) := by
  unfold f221_numberFormula at h
  show pG 221 0 [some (.ref 211), none] [] (mjTo Z) _
  refine pG_many 1 (pc1 := 1) (L1 := [some (.ref 211), none]) (st1 := [.ref 211]) (M1 := mjTo Z) rfl ?_
  cases hq101 : f219_operand  Z with
  | none => rw [hq101] at h; cases h
  | some w =>
    obtain ⟨v102, Z103⟩ := w
    rw [hq101, mjBd_some] at h
    refine pG_callV (k2 := 219) (As := [.ref 211]) (rest := []) rfl rfl rfl rfl rfl (by rfl) (by decide) (f219_operand_ok hq101) ?_
    rintro r9 M9 ⟨rfl, rfl⟩
    show pG 221 4 [some (.ref 211), none] [] (mjTo Z103) _
    refine pG_many 2 (pc1 := 6) (L1 := [some (.ref 211), some (.int 1)]) (st1 := []) (M1 := mjTo Z103) rfl ?_
    exact f221_numberFormula_h6_ok mjF 1 Z103 v9 Z9 h
def f222_ends_h0 : Nat → mjZt → Option (Unit × mjZt)
  | 0, _ => none
  | n + 1, Z =>
    mjBp (f207_isGood  Z) fun v102 =>
    if mjCmp .eq v102 0 = true then
      some ((), Z)
    else
      mjBp (f216_top  Z) fun v106 =>
      if mjCmp .ne v106 40 = true then
        some ((), Z)
      else
        mjLet (zSi Z 211 18 ((Z.1 211 18) - 1)) fun Z109 =>
        mjBd (f214_emits 40 Z109) fun _ Z112 =>
        mjLet (zSi Z112 211 20 ((Z112.1 211 20) - 1)) fun Z113 =>
        f222_ends_h0 n  Z113
theorem f222_ends_h0_ok : ∀ (n : Nat)  (Z : mjZt) (v9 : Unit) (Z9 : mjZt), f222_ends_h0 n  Z = some (v9, Z9) → pG 222 0 [some (.ref 211)] [] (mjTo Z) (fun r M1 => r = none ∧ M1 = mjTo Z9)
  | 0, Z, v9, Z9, h => by rw [f222_ends_h0] at h; cases h
  | n + 1, Z, v9, Z9, h => by
      rw [f222_ends_h0] at h
      refine pG_many 1 (pc1 := 1) (L1 := [some (.ref 211)]) (st1 := [.ref 211]) (M1 := mjTo Z) rfl ?_
      cases hq101 : f207_isGood  Z with
      | none => rw [hq101] at h; cases h
      | some v102 =>
        rw [hq101, mjBp_some] at h
        refine pG_callV (k2 := 207) (As := [.ref 211]) (rest := []) rfl rfl rfl rfl rfl (by rfl) (by decide) (f207_isGood_ok hq101) ?_
        rintro r9 M9 ⟨rfl, rfl⟩
        show pG 222 4 [some (.ref 211)] [.int v102] (mjTo Z) _
        by_cases hc104 : mjCmp .eq v102 0 = true
        · rw [if_pos hc104] at h
          refine pG_ift (t := 45) rfl rfl hc104 ?_
          simp only [Option.some.injEq, Prod.mk.injEq] at h
          obtain ⟨-, rfl⟩ := h
          exact pG_ret (r := none) rfl ⟨rfl, rfl⟩
        · rw [if_neg hc104] at h
          refine pG_iff (t := 45) rfl rfl hc104 ?_
          refine pG_many 1 (pc1 := 8) (L1 := [some (.ref 211)]) (st1 := [.ref 211]) (M1 := mjTo Z) rfl ?_
          cases hq105 : f216_top  Z with
          | none => rw [hq105] at h; cases h
          | some v106 =>
            rw [hq105, mjBp_some] at h
            refine pG_callV (k2 := 216) (As := [.ref 211]) (rest := []) rfl rfl rfl rfl rfl (by rfl) (by decide) (f216_top_ok hq105) ?_
            rintro r9 M9 ⟨rfl, rfl⟩
            show pG 222 11 [some (.ref 211)] [.int v106] (mjTo Z) _
            refine pG_many 1 (pc1 := 13) (L1 := [some (.ref 211)]) (st1 := [.int 40, .int v106]) (M1 := mjTo Z) rfl ?_
            by_cases hc108 : mjCmp .ne v106 40 = true
            · rw [if_pos hc108] at h
              refine pG_cmt (t := 45) rfl rfl hc108 ?_
              simp only [Option.some.injEq, Prod.mk.injEq] at h
              obtain ⟨-, rfl⟩ := h
              exact pG_ret (r := none) rfl ⟨rfl, rfl⟩
            · rw [if_neg hc108] at h
              refine pG_cmf (t := 45) rfl rfl hc108 ?_
              refine pG_many 2 (pc1 := 18) (L1 := [some (.ref 211)]) (st1 := [.ref 211, .ref 211]) (M1 := mjTo Z) rfl ?_
              refine pG_getI (ci := 12) (f := 18) rfl rfl (Or.inl rfl) (by rfl) ?_
              refine pG_many 2 (pc1 := 23) (L1 := [some (.ref 211)]) (st1 := [.int ((Z.1 211 18) - 1), .ref 211]) (M1 := mjTo Z) rfl ?_
              refine pG_putI (ci := 12) (f := 18) rfl rfl rfl rfl (by rfl) ?_
              rw [mjLet] at h
              generalize zSi Z 211 18 ((Z.1 211 18) - 1) = Z109 at h ⊢
              refine pG_many 2 (pc1 := 29) (L1 := [some (.ref 211)]) (st1 := [.int 40, .ref 211]) (M1 := mjTo Z109) rfl ?_
              cases hq110 : f214_emits 40 Z109 with
              | none => rw [hq110] at h; cases h
              | some w =>
                obtain ⟨v111, Z112⟩ := w
                rw [hq110, mjBd_some] at h
                refine pG_callV (k2 := 214) (As := [.ref 211, .int 40]) (rest := []) rfl rfl rfl rfl rfl (by rfl) (by decide) (f214_emits_ok hq110) ?_
                rintro r9 M9 ⟨rfl, rfl⟩
                show pG 222 32 [some (.ref 211)] [] (mjTo Z112) _
                refine pG_many 2 (pc1 := 34) (L1 := [some (.ref 211)]) (st1 := [.ref 211, .ref 211]) (M1 := mjTo Z112) rfl ?_
                refine pG_getI (ci := 12) (f := 20) rfl rfl (Or.inl rfl) (by rfl) ?_
                refine pG_many 2 (pc1 := 39) (L1 := [some (.ref 211)]) (st1 := [.int ((Z112.1 211 20) - 1), .ref 211]) (M1 := mjTo Z112) rfl ?_
                refine pG_putI (ci := 12) (f := 20) rfl rfl rfl rfl (by rfl) ?_
                rw [mjLet] at h
                generalize zSi Z112 211 20 ((Z112.1 211 20) - 1) = Z113 at h ⊢
                refine pG_many 1 (pc1 := 0) (L1 := [some (.ref 211)]) (st1 := []) (M1 := mjTo Z113) rfl ?_
                exact f222_ends_h0_ok n Z113 v9 Z9 h
def f222_ends  (Z : mjZt) : Option (Unit × mjZt) :=
  f222_ends_h0 mjF  Z
theorem f222_ends_ok  {Z : mjZt} {v9 : Unit} {Z9 : mjZt} (h : f222_ends  Z = some (v9, Z9)) : pG 222 0 (mjEnt [.ref 211] (mjML 222)) [] (mjTo Z) (fun r M1 => r = none ∧ M1 = mjTo Z9) := by
  unfold f222_ends at h
  show pG 222 0 [some (.ref 211)] [] (mjTo Z) _
  exact f222_ends_h0_ok mjF Z v9 Z9 h
def f223_comparison_j19 (R : mjZt → Option (Unit × mjZt))  (Z : mjZt) : Option (Unit × mjZt) :=
  if mjCmp .ne (Z.1 211 7) 1 = true then
    mjBd (f217_opens 50 Z) fun _ Z108 =>
    R  Z108
  else
    mjBd (f217_opens 40 Z) fun _ Z111 =>
    R  Z111
theorem f223_comparison_j19_ok (R : mjZt → Option (Unit × mjZt)) (hR : ∀ (d1 d2 : Option Value) (Z : mjZt) (v9 : Unit) (Z9 : mjZt), R  Z = some (v9, Z9) → pG 223 0 [some (.ref 211), d1, d2] [] (mjTo Z) (fun r M1 => r = none ∧ M1 = mjTo Z9))  (d1 d2 : Option Value) (Z : mjZt) (v9 : Unit) (Z9 : mjZt) (h : f223_comparison_j19 R  Z = some (v9, Z9)) : pG 223 19 [some (.ref 211), d1, d2] [] (mjTo Z) (fun r M1 => r = none ∧ M1 = mjTo Z9) := by
  unfold f223_comparison_j19 at h
  refine pG_many 2 (pc1 := 21) (L1 := [some (.ref 211), d1, d2]) (st1 := [.ref 211, .ref 211]) (M1 := mjTo Z) rfl ?_
  refine pG_getI (ci := 12) (f := 7) rfl rfl (Or.inl rfl) (by rfl) ?_
  refine pG_many 1 (pc1 := 25) (L1 := [some (.ref 211), d1, d2]) (st1 := [.int 1, .int (Z.1 211 7), .ref 211]) (M1 := mjTo Z) rfl ?_
  by_cases hc105 : mjCmp .ne (Z.1 211 7) 1 = true
  · rw [if_pos hc105] at h
    refine pG_cmt (t := 33) rfl rfl hc105 ?_
    refine pG_many 1 (pc1 := 35) (L1 := [some (.ref 211), d1, d2]) (st1 := [.int 50, .ref 211]) (M1 := mjTo Z) rfl ?_
    cases hq106 : f217_opens 50 Z with
    | none => rw [hq106] at h; cases h
    | some w =>
      obtain ⟨v107, Z108⟩ := w
      rw [hq106, mjBd_some] at h
      refine pG_callV (k2 := 217) (As := [.ref 211, .int 50]) (rest := []) rfl rfl rfl rfl rfl (by rfl) (by decide) (f217_opens_ok hq106) ?_
      rintro r9 M9 ⟨rfl, rfl⟩
      show pG 223 38 [some (.ref 211), d1, d2] [] (mjTo Z108) _
      refine pG_many 1 (pc1 := 0) (L1 := [some (.ref 211), d1, d2]) (st1 := []) (M1 := mjTo Z108) rfl ?_
      exact hR d1 d2 Z108 v9 Z9 h
  · rw [if_neg hc105] at h
    refine pG_cmf (t := 33) rfl rfl hc105 ?_
    refine pG_many 2 (pc1 := 35) (L1 := [some (.ref 211), d1, d2]) (st1 := [.int 40, .ref 211]) (M1 := mjTo Z) rfl ?_
    cases hq109 : f217_opens 40 Z with
    | none => rw [hq109] at h; cases h
    | some w =>
      obtain ⟨v110, Z111⟩ := w
      rw [hq109, mjBd_some] at h
      refine pG_callV (k2 := 217) (As := [.ref 211, .int 40]) (rest := []) rfl rfl rfl rfl rfl (by rfl) (by decide) (f217_opens_ok hq109) ?_
      rintro r9 M9 ⟨rfl, rfl⟩
      show pG 223 38 [some (.ref 211), d1, d2] [] (mjTo Z111) _
      refine pG_many 1 (pc1 := 0) (L1 := [some (.ref 211), d1, d2]) (st1 := []) (M1 := mjTo Z111) rfl ?_
      exact hR d1 d2 Z111 v9 Z9 h
def f223_comparison_j164 (x1 : Int32) (x2 : Int32) (Z : mjZt) : Option (Unit × mjZt) :=
  mjLet (zSi Z 211 19 x1) fun Z138 =>
  if mjCmp .le (Z138.1 211 9) 0 = true then
    mjLet (zSi Z138 211 18 ((Z138.1 211 18) - 1)) fun Z140 =>
    mjBd (f214_emits x2 Z140) fun _ Z143 =>
    mjBd (f222_ends  Z143) fun _ Z146 =>
    some ((), Z146)
  else
    some ((), Z138)
theorem f223_comparison_j164_ok (x1 : Int32) (x2 : Int32) (Z : mjZt) (v9 : Unit) (Z9 : mjZt) (h : f223_comparison_j164 x1 x2 Z = some (v9, Z9)) : pG 223 164 [some (.ref 211), some (.int x1), some (.int x2)] [] (mjTo Z) (fun r M1 => r = none ∧ M1 = mjTo Z9) := by
  unfold f223_comparison_j164 at h
  refine pG_many 2 (pc1 := 166) (L1 := [some (.ref 211), some (.int x1), some (.int x2)]) (st1 := [.int x1, .ref 211]) (M1 := mjTo Z) rfl ?_
  refine pG_putI (ci := 12) (f := 19) rfl rfl rfl rfl (by rfl) ?_
  rw [mjLet] at h
  generalize zSi Z 211 19 x1 = Z138 at h ⊢
  refine pG_many 1 (pc1 := 170) (L1 := [some (.ref 211), some (.int x1), some (.int x2)]) (st1 := [.ref 211]) (M1 := mjTo Z138) rfl ?_
  refine pG_getI (ci := 12) (f := 9) rfl rfl (Or.inl rfl) (by rfl) ?_
  by_cases hc139 : mjCmp .le (Z138.1 211 9) 0 = true
  · rw [if_pos hc139] at h
    refine pG_ift (t := 177) rfl rfl hc139 ?_
    refine pG_many 2 (pc1 := 179) (L1 := [some (.ref 211), some (.int x1), some (.int x2)]) (st1 := [.ref 211, .ref 211]) (M1 := mjTo Z138) rfl ?_
    refine pG_getI (ci := 12) (f := 18) rfl rfl (Or.inl rfl) (by rfl) ?_
    refine pG_many 2 (pc1 := 184) (L1 := [some (.ref 211), some (.int x1), some (.int x2)]) (st1 := [.int ((Z138.1 211 18) - 1), .ref 211]) (M1 := mjTo Z138) rfl ?_
    refine pG_putI (ci := 12) (f := 18) rfl rfl rfl rfl (by rfl) ?_
    rw [mjLet] at h
    generalize zSi Z138 211 18 ((Z138.1 211 18) - 1) = Z140 at h ⊢
    refine pG_many 2 (pc1 := 189) (L1 := [some (.ref 211), some (.int x1), some (.int x2)]) (st1 := [.int x2, .ref 211]) (M1 := mjTo Z140) rfl ?_
    cases hq141 : f214_emits x2 Z140 with
    | none => rw [hq141] at h; cases h
    | some w =>
      obtain ⟨v142, Z143⟩ := w
      rw [hq141, mjBd_some] at h
      refine pG_callV (k2 := 214) (As := [.ref 211, .int x2]) (rest := []) rfl rfl rfl rfl rfl (by rfl) (by decide) (f214_emits_ok hq141) ?_
      rintro r9 M9 ⟨rfl, rfl⟩
      show pG 223 192 [some (.ref 211), some (.int x1), some (.int x2)] [] (mjTo Z143) _
      refine pG_many 1 (pc1 := 193) (L1 := [some (.ref 211), some (.int x1), some (.int x2)]) (st1 := [.ref 211]) (M1 := mjTo Z143) rfl ?_
      cases hq144 : f222_ends  Z143 with
      | none => rw [hq144] at h; cases h
      | some w =>
        obtain ⟨v145, Z146⟩ := w
        rw [hq144, mjBd_some] at h
        refine pG_callV (k2 := 222) (As := [.ref 211]) (rest := []) rfl rfl rfl rfl rfl (by rfl) (by decide) (f222_ends_ok hq144) ?_
        rintro r9 M9 ⟨rfl, rfl⟩
        show pG 223 196 [some (.ref 211), some (.int x1), some (.int x2)] [] (mjTo Z146) _
        simp only [Option.some.injEq, Prod.mk.injEq] at h
        obtain ⟨-, rfl⟩ := h
        exact pG_ret (r := none) rfl ⟨rfl, rfl⟩
  · rw [if_neg hc139] at h
    refine pG_iff (t := 177) rfl rfl hc139 ?_
    simp only [Option.some.injEq, Prod.mk.injEq] at h
    obtain ⟨-, rfl⟩ := h
    exact pG_ret (r := none) rfl ⟨rfl, rfl⟩
def f223_comparison_j153 (x1 : Int32) (x2 : Int32) (Z : mjZt) : Option (Unit × mjZt) :=
  mjBp (f207_isGood  Z) fun v135 =>
  if mjCmp .eq v135 0 = true then
    f223_comparison_j164 x1 x2 Z
  else
    mjBd (f221_numberFormula  Z) fun _ Z149 =>
    f223_comparison_j164 x1 x2 Z149
theorem f223_comparison_j153_ok (x1 : Int32) (x2 : Int32) (Z : mjZt) (v9 : Unit) (Z9 : mjZt) (h : f223_comparison_j153 x1 x2 Z = some (v9, Z9)) : pG 223 153 [some (.ref 211), some (.int x1), some (.int x2)] [] (mjTo Z) (fun r M1 => r = none ∧ M1 = mjTo Z9) := by
  unfold f223_comparison_j153 at h
  refine pG_many 1 (pc1 := 154) (L1 := [some (.ref 211), some (.int x1), some (.int x2)]) (st1 := [.ref 211]) (M1 := mjTo Z) rfl ?_
  cases hq134 : f207_isGood  Z with
  | none => rw [hq134] at h; cases h
  | some v135 =>
    rw [hq134, mjBp_some] at h
    refine pG_callV (k2 := 207) (As := [.ref 211]) (rest := []) rfl rfl rfl rfl rfl (by rfl) (by decide) (f207_isGood_ok hq134) ?_
    rintro r9 M9 ⟨rfl, rfl⟩
    show pG 223 157 [some (.ref 211), some (.int x1), some (.int x2)] [.int v135] (mjTo Z) _
    by_cases hc137 : mjCmp .eq v135 0 = true
    · rw [if_pos hc137] at h
      refine pG_ift (t := 164) rfl rfl hc137 ?_
      exact f223_comparison_j164_ok x1 x2 Z v9 Z9 h
    · rw [if_neg hc137] at h
      refine pG_iff (t := 164) rfl rfl hc137 ?_
      refine pG_many 1 (pc1 := 161) (L1 := [some (.ref 211), some (.int x1), some (.int x2)]) (st1 := [.ref 211]) (M1 := mjTo Z) rfl ?_
      cases hq147 : f221_numberFormula  Z with
      | none => rw [hq147] at h; cases h
      | some w =>
        obtain ⟨v148, Z149⟩ := w
        rw [hq147, mjBd_some] at h
        refine pG_callV (k2 := 221) (As := [.ref 211]) (rest := []) rfl rfl rfl rfl rfl (by rfl) (by decide) (f221_numberFormula_ok hq147) ?_
        rintro r9 M9 ⟨rfl, rfl⟩
        show pG 223 164 [some (.ref 211), some (.int x1), some (.int x2)] [] (mjTo Z149) _
        exact f223_comparison_j164_ok x1 x2 Z149 v9 Z9 h
def f223_comparison_j141 (x1 : Int32) (s0 : Int32) (Z : mjZt) : Option (Unit × mjZt) :=
  mjBp (f207_isGood  Z) fun v131 =>
  if mjCmp .eq v131 0 = true then
    f223_comparison_j153 x1 s0 Z
  else
    mjBd (f205_goOn  Z) fun _ Z152 =>
    f223_comparison_j153 x1 s0 Z152
theorem f223_comparison_j141_ok (x1 : Int32) (s0 : Int32) (d2 : Option Value) (Z : mjZt) (v9 : Unit) (Z9 : mjZt) (h : f223_comparison_j141 x1 s0 Z = some (v9, Z9)) : pG 223 141 [some (.ref 211), some (.int x1), d2] [.int s0] (mjTo Z) (fun r M1 => r = none ∧ M1 = mjTo Z9) := by
  unfold f223_comparison_j141 at h
  refine pG_many 2 (pc1 := 143) (L1 := [some (.ref 211), some (.int x1), some (.int s0)]) (st1 := [.ref 211]) (M1 := mjTo Z) rfl ?_
  cases hq130 : f207_isGood  Z with
  | none => rw [hq130] at h; cases h
  | some v131 =>
    rw [hq130, mjBp_some] at h
    refine pG_callV (k2 := 207) (As := [.ref 211]) (rest := []) rfl rfl rfl rfl rfl (by rfl) (by decide) (f207_isGood_ok hq130) ?_
    rintro r9 M9 ⟨rfl, rfl⟩
    show pG 223 146 [some (.ref 211), some (.int x1), some (.int s0)] [.int v131] (mjTo Z) _
    by_cases hc133 : mjCmp .eq v131 0 = true
    · rw [if_pos hc133] at h
      refine pG_ift (t := 153) rfl rfl hc133 ?_
      exact f223_comparison_j153_ok x1 s0 Z v9 Z9 h
    · rw [if_neg hc133] at h
      refine pG_iff (t := 153) rfl rfl hc133 ?_
      refine pG_many 1 (pc1 := 150) (L1 := [some (.ref 211), some (.int x1), some (.int s0)]) (st1 := [.ref 211]) (M1 := mjTo Z) rfl ?_
      cases hq150 : f205_goOn  Z with
      | none => rw [hq150] at h; cases h
      | some w =>
        obtain ⟨v151, Z152⟩ := w
        rw [hq150, mjBd_some] at h
        refine pG_callV (k2 := 205) (As := [.ref 211]) (rest := []) rfl rfl rfl rfl rfl (by rfl) (by decide) (f205_goOn_ok hq150) ?_
        rintro r9 M9 ⟨rfl, rfl⟩
        show pG 223 153 [some (.ref 211), some (.int x1), some (.int s0)] [] (mjTo Z152) _
        exact f223_comparison_j153_ok x1 s0 Z152 v9 Z9 h
def f223_comparison_j111 (x1 : Int32) (Z : mjZt) : Option (Unit × mjZt) :=
  if mjCmp .ne (Z.1 211 8) 60 = true then
    if mjCmp .ne (Z.1 211 8) 62 = true then
      f223_comparison_j141 x1 32 Z
    else
      f223_comparison_j141 x1 31 Z
  else
    f223_comparison_j141 x1 30 Z
theorem f223_comparison_j111_ok (x1 : Int32) (d2 : Option Value) (Z : mjZt) (v9 : Unit) (Z9 : mjZt) (h : f223_comparison_j111 x1 Z = some (v9, Z9)) : pG 223 111 [some (.ref 211), some (.int x1), d2] [] (mjTo Z) (fun r M1 => r = none ∧ M1 = mjTo Z9) := by
  unfold f223_comparison_j111 at h
  refine pG_many 1 (pc1 := 112) (L1 := [some (.ref 211), some (.int x1), d2]) (st1 := [.ref 211]) (M1 := mjTo Z) rfl ?_
  refine pG_getI (ci := 12) (f := 8) rfl rfl (Or.inl rfl) (by rfl) ?_
  refine pG_many 1 (pc1 := 117) (L1 := [some (.ref 211), some (.int x1), d2]) (st1 := [.int 60, .int (Z.1 211 8)]) (M1 := mjTo Z) rfl ?_
  by_cases hc128 : mjCmp .ne (Z.1 211 8) 60 = true
  · rw [if_pos hc128] at h
    refine pG_cmt (t := 125) rfl rfl hc128 ?_
    refine pG_many 1 (pc1 := 126) (L1 := [some (.ref 211), some (.int x1), d2]) (st1 := [.ref 211]) (M1 := mjTo Z) rfl ?_
    refine pG_getI (ci := 12) (f := 8) rfl rfl (Or.inl rfl) (by rfl) ?_
    refine pG_many 1 (pc1 := 131) (L1 := [some (.ref 211), some (.int x1), d2]) (st1 := [.int 62, .int (Z.1 211 8)]) (M1 := mjTo Z) rfl ?_
    by_cases hc129 : mjCmp .ne (Z.1 211 8) 62 = true
    · rw [if_pos hc129] at h
      refine pG_cmt (t := 139) rfl rfl hc129 ?_
      refine pG_many 1 (pc1 := 141) (L1 := [some (.ref 211), some (.int x1), d2]) (st1 := [.int 32]) (M1 := mjTo Z) rfl ?_
      exact f223_comparison_j141_ok x1 32 d2 Z v9 Z9 h
    · rw [if_neg hc129] at h
      refine pG_cmf (t := 139) rfl rfl hc129 ?_
      refine pG_many 2 (pc1 := 141) (L1 := [some (.ref 211), some (.int x1), d2]) (st1 := [.int 31]) (M1 := mjTo Z) rfl ?_
      exact f223_comparison_j141_ok x1 31 d2 Z v9 Z9 h
  · rw [if_neg hc128] at h
    refine pG_cmf (t := 125) rfl rfl hc128 ?_
    refine pG_many 2 (pc1 := 141) (L1 := [some (.ref 211), some (.int x1), d2]) (st1 := [.int 30]) (M1 := mjTo Z) rfl ?_
    exact f223_comparison_j141_ok x1 30 d2 Z v9 Z9 h
def f223_comparison_h0 : Nat → mjZt → Option (Unit × mjZt)
  | 0, _ => none
  | n + 1, Z =>
    mjBp (f208_isWord 7237492 Z) fun v102 =>
    if mjCmp .ne v102 0 = true then
      f223_comparison_j19 (f223_comparison_h0 n)  Z
    else
      mjBp (f209_isSignHere 40 Z) fun v113 =>
      if mjCmp .eq v113 0 = true then
        if mjCmp .le (Z.1 211 9) 0 = true then
          mjBd (f215_waitsFor 52 Z) fun _ Z119 =>
          mjLet (zSi Z119 211 19 (Z119.1 211 18)) fun Z120 =>
          mjBd (f221_numberFormula  Z120) fun _ Z123 =>
          mjBp (f207_isGood  Z123) fun v125 =>
          if mjCmp .eq v125 0 = true then
            f223_comparison_j111 (Z119.1 211 19) Z123
          else
            mjBp (f209_isSignHere 60 Z123) fun v154 =>
            if mjCmp .ne v154 0 = true then
              f223_comparison_j111 (Z119.1 211 19) Z123
            else
              mjBp (f209_isSignHere 62 Z123) fun v158 =>
              if mjCmp .ne v158 0 = true then
                f223_comparison_j111 (Z119.1 211 19) Z123
              else
                mjBp (f209_isSignHere 61 Z123) fun v162 =>
                if mjCmp .ne v162 0 = true then
                  f223_comparison_j111 (Z119.1 211 19) Z123
                else
                  mjBd (f206_wrong 2 Z123) fun _ Z167 =>
                  f223_comparison_j111 (Z119.1 211 19) Z167
        else
          some ((), Z)
      else
        f223_comparison_j19 (f223_comparison_h0 n)  Z
theorem f223_comparison_h0_ok : ∀ (n : Nat)  (d1 d2 : Option Value) (Z : mjZt) (v9 : Unit) (Z9 : mjZt), f223_comparison_h0 n  Z = some (v9, Z9) → pG 223 0 [some (.ref 211), d1, d2] [] (mjTo Z) (fun r M1 => r = none ∧ M1 = mjTo Z9)
  | 0, d1, d2, Z, v9, Z9, h => by rw [f223_comparison_h0] at h; cases h
  | n + 1, d1, d2, Z, v9, Z9, h => by
      rw [f223_comparison_h0] at h
      refine pG_many 2 (pc1 := 4) (L1 := [some (.ref 211), d1, d2]) (st1 := [.long 7237492, .ref 211]) (M1 := mjTo Z) rfl ?_
      cases hq101 : f208_isWord 7237492 Z with
      | none => rw [hq101] at h; cases h
      | some v102 =>
        rw [hq101, mjBp_some] at h
        refine pG_callV (k2 := 208) (As := [.ref 211, .long 7237492]) (rest := []) rfl rfl rfl rfl rfl (by rfl) (by decide) (f208_isWord_ok hq101) ?_
        rintro r9 M9 ⟨rfl, rfl⟩
        show pG 223 7 [some (.ref 211), d1, d2] [.int v102] (mjTo Z) _
        by_cases hc104 : mjCmp .ne v102 0 = true
        · rw [if_pos hc104] at h
          refine pG_ift (t := 19) rfl rfl hc104 ?_
          exact f223_comparison_j19_ok (f223_comparison_h0 n) (fun d1 d2 Z v9 Z9 h => f223_comparison_h0_ok n d1 d2 Z v9 Z9 h) d1 d2 Z v9 Z9 h
        · rw [if_neg hc104] at h
          refine pG_iff (t := 19) rfl rfl hc104 ?_
          refine pG_many 2 (pc1 := 13) (L1 := [some (.ref 211), d1, d2]) (st1 := [.int 40, .ref 211]) (M1 := mjTo Z) rfl ?_
          cases hq112 : f209_isSignHere 40 Z with
          | none => rw [hq112] at h; cases h
          | some v113 =>
            rw [hq112, mjBp_some] at h
            refine pG_callV (k2 := 209) (As := [.ref 211, .int 40]) (rest := []) rfl rfl rfl rfl rfl (by rfl) (by decide) (f209_isSignHere_ok hq112) ?_
            rintro r9 M9 ⟨rfl, rfl⟩
            show pG 223 16 [some (.ref 211), d1, d2] [.int v113] (mjTo Z) _
            by_cases hc115 : mjCmp .eq v113 0 = true
            · rw [if_pos hc115] at h
              refine pG_ift (t := 41) rfl rfl hc115 ?_
              refine pG_many 1 (pc1 := 42) (L1 := [some (.ref 211), d1, d2]) (st1 := [.ref 211]) (M1 := mjTo Z) rfl ?_
              refine pG_getI (ci := 12) (f := 9) rfl rfl (Or.inl rfl) (by rfl) ?_
              by_cases hc116 : mjCmp .le (Z.1 211 9) 0 = true
              · rw [if_pos hc116] at h
                refine pG_ift (t := 49) rfl rfl hc116 ?_
                refine pG_many 2 (pc1 := 52) (L1 := [some (.ref 211), d1, d2]) (st1 := [.int 52, .ref 211]) (M1 := mjTo Z) rfl ?_
                cases hq117 : f215_waitsFor 52 Z with
                | none => rw [hq117] at h; cases h
                | some w =>
                  obtain ⟨v118, Z119⟩ := w
                  rw [hq117, mjBd_some] at h
                  refine pG_callV (k2 := 215) (As := [.ref 211, .int 52]) (rest := []) rfl rfl rfl rfl rfl (by rfl) (by decide) (f215_waitsFor_ok hq117) ?_
                  rintro r9 M9 ⟨rfl, rfl⟩
                  show pG 223 55 [some (.ref 211), d1, d2] [] (mjTo Z119) _
                  refine pG_many 1 (pc1 := 56) (L1 := [some (.ref 211), d1, d2]) (st1 := [.ref 211]) (M1 := mjTo Z119) rfl ?_
                  refine pG_getI (ci := 12) (f := 19) rfl rfl (Or.inl rfl) (by rfl) ?_
                  refine pG_many 3 (pc1 := 62) (L1 := [some (.ref 211), some (.int (Z119.1 211 19)), d2]) (st1 := [.ref 211, .ref 211]) (M1 := mjTo Z119) rfl ?_
                  refine pG_getI (ci := 12) (f := 18) rfl rfl (Or.inl rfl) (by rfl) ?_
                  refine pG_putI (ci := 12) (f := 19) rfl rfl rfl rfl (by rfl) ?_
                  rw [mjLet] at h
                  generalize zSi Z119 211 19 (Z119.1 211 18) = Z120 at h ⊢
                  refine pG_many 1 (pc1 := 69) (L1 := [some (.ref 211), some (.int (Z119.1 211 19)), d2]) (st1 := [.ref 211]) (M1 := mjTo Z120) rfl ?_
                  cases hq121 : f221_numberFormula  Z120 with
                  | none => rw [hq121] at h; cases h
                  | some w =>
                    obtain ⟨v122, Z123⟩ := w
                    rw [hq121, mjBd_some] at h
                    refine pG_callV (k2 := 221) (As := [.ref 211]) (rest := []) rfl rfl rfl rfl rfl (by rfl) (by decide) (f221_numberFormula_ok hq121) ?_
                    rintro r9 M9 ⟨rfl, rfl⟩
                    show pG 223 72 [some (.ref 211), some (.int (Z119.1 211 19)), d2] [] (mjTo Z123) _
                    refine pG_many 1 (pc1 := 73) (L1 := [some (.ref 211), some (.int (Z119.1 211 19)), d2]) (st1 := [.ref 211]) (M1 := mjTo Z123) rfl ?_
                    cases hq124 : f207_isGood  Z123 with
                    | none => rw [hq124] at h; cases h
                    | some v125 =>
                      rw [hq124, mjBp_some] at h
                      refine pG_callV (k2 := 207) (As := [.ref 211]) (rest := []) rfl rfl rfl rfl rfl (by rfl) (by decide) (f207_isGood_ok hq124) ?_
                      rintro r9 M9 ⟨rfl, rfl⟩
                      show pG 223 76 [some (.ref 211), some (.int (Z119.1 211 19)), d2] [.int v125] (mjTo Z123) _
                      by_cases hc127 : mjCmp .eq v125 0 = true
                      · rw [if_pos hc127] at h
                        refine pG_ift (t := 111) rfl rfl hc127 ?_
                        exact f223_comparison_j111_ok (Z119.1 211 19) d2 Z123 v9 Z9 h
                      · rw [if_neg hc127] at h
                        refine pG_iff (t := 111) rfl rfl hc127 ?_
                        refine pG_many 2 (pc1 := 82) (L1 := [some (.ref 211), some (.int (Z119.1 211 19)), d2]) (st1 := [.int 60, .ref 211]) (M1 := mjTo Z123) rfl ?_
                        cases hq153 : f209_isSignHere 60 Z123 with
                        | none => rw [hq153] at h; cases h
                        | some v154 =>
                          rw [hq153, mjBp_some] at h
                          refine pG_callV (k2 := 209) (As := [.ref 211, .int 60]) (rest := []) rfl rfl rfl rfl rfl (by rfl) (by decide) (f209_isSignHere_ok hq153) ?_
                          rintro r9 M9 ⟨rfl, rfl⟩
                          show pG 223 85 [some (.ref 211), some (.int (Z119.1 211 19)), d2] [.int v154] (mjTo Z123) _
                          by_cases hc156 : mjCmp .ne v154 0 = true
                          · rw [if_pos hc156] at h
                            refine pG_ift (t := 111) rfl rfl hc156 ?_
                            exact f223_comparison_j111_ok (Z119.1 211 19) d2 Z123 v9 Z9 h
                          · rw [if_neg hc156] at h
                            refine pG_iff (t := 111) rfl rfl hc156 ?_
                            refine pG_many 2 (pc1 := 91) (L1 := [some (.ref 211), some (.int (Z119.1 211 19)), d2]) (st1 := [.int 62, .ref 211]) (M1 := mjTo Z123) rfl ?_
                            cases hq157 : f209_isSignHere 62 Z123 with
                            | none => rw [hq157] at h; cases h
                            | some v158 =>
                              rw [hq157, mjBp_some] at h
                              refine pG_callV (k2 := 209) (As := [.ref 211, .int 62]) (rest := []) rfl rfl rfl rfl rfl (by rfl) (by decide) (f209_isSignHere_ok hq157) ?_
                              rintro r9 M9 ⟨rfl, rfl⟩
                              show pG 223 94 [some (.ref 211), some (.int (Z119.1 211 19)), d2] [.int v158] (mjTo Z123) _
                              by_cases hc160 : mjCmp .ne v158 0 = true
                              · rw [if_pos hc160] at h
                                refine pG_ift (t := 111) rfl rfl hc160 ?_
                                exact f223_comparison_j111_ok (Z119.1 211 19) d2 Z123 v9 Z9 h
                              · rw [if_neg hc160] at h
                                refine pG_iff (t := 111) rfl rfl hc160 ?_
                                refine pG_many 2 (pc1 := 100) (L1 := [some (.ref 211), some (.int (Z119.1 211 19)), d2]) (st1 := [.int 61, .ref 211]) (M1 := mjTo Z123) rfl ?_
                                cases hq161 : f209_isSignHere 61 Z123 with
                                | none => rw [hq161] at h; cases h
                                | some v162 =>
                                  rw [hq161, mjBp_some] at h
                                  refine pG_callV (k2 := 209) (As := [.ref 211, .int 61]) (rest := []) rfl rfl rfl rfl rfl (by rfl) (by decide) (f209_isSignHere_ok hq161) ?_
                                  rintro r9 M9 ⟨rfl, rfl⟩
                                  show pG 223 103 [some (.ref 211), some (.int (Z119.1 211 19)), d2] [.int v162] (mjTo Z123) _
                                  by_cases hc164 : mjCmp .ne v162 0 = true
                                  · rw [if_pos hc164] at h
                                    refine pG_ift (t := 111) rfl rfl hc164 ?_
                                    exact f223_comparison_j111_ok (Z119.1 211 19) d2 Z123 v9 Z9 h
                                  · rw [if_neg hc164] at h
                                    refine pG_iff (t := 111) rfl rfl hc164 ?_
                                    refine pG_many 2 (pc1 := 108) (L1 := [some (.ref 211), some (.int (Z119.1 211 19)), d2]) (st1 := [.int 2, .ref 211]) (M1 := mjTo Z123) rfl ?_
                                    cases hq165 : f206_wrong 2 Z123 with
                                    | none => rw [hq165] at h; cases h
                                    | some w =>
                                      obtain ⟨v166, Z167⟩ := w
                                      rw [hq165, mjBd_some] at h
                                      refine pG_callV (k2 := 206) (As := [.ref 211, .int 2]) (rest := []) rfl rfl rfl rfl rfl (by rfl) (by decide) (f206_wrong_ok hq165) ?_
                                      rintro r9 M9 ⟨rfl, rfl⟩
                                      show pG 223 111 [some (.ref 211), some (.int (Z119.1 211 19)), d2] [] (mjTo Z167) _
                                      exact f223_comparison_j111_ok (Z119.1 211 19) d2 Z167 v9 Z9 h
              · rw [if_neg hc116] at h
                refine pG_iff (t := 49) rfl rfl hc116 ?_
                simp only [Option.some.injEq, Prod.mk.injEq] at h
                obtain ⟨-, rfl⟩ := h
                exact pG_ret (r := none) rfl ⟨rfl, rfl⟩
            · rw [if_neg hc115] at h
              refine pG_iff (t := 41) rfl rfl hc115 ?_
              exact f223_comparison_j19_ok (f223_comparison_h0 n) (fun d1 d2 Z v9 Z9 h => f223_comparison_h0_ok n d1 d2 Z v9 Z9 h) d1 d2 Z v9 Z9 h
def f223_comparison  (Z : mjZt) : Option (Unit × mjZt) :=
  f223_comparison_h0 mjF  Z
theorem f223_comparison_ok  {Z : mjZt} {v9 : Unit} {Z9 : mjZt} (h : f223_comparison  Z = some (v9, Z9)) : pG 223 0 (mjEnt [.ref 211] (mjML 223)) [] (mjTo Z) (fun r M1 => r = none ∧ M1 = mjTo Z9) := by
  unfold f223_comparison at h
  show pG 223 0 [some (.ref 211), none, none] [] (mjTo Z) _
  exact f223_comparison_h0_ok mjF none none Z v9 Z9 h
