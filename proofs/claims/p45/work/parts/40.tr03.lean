def f65_takeWord_j92  (Z : mjZt) : Option (Unit × mjZt) :=
  if mjCmp .gt ((Z.1 183 2) - (Z.1 183 4)) 8 = true then
    mjLet (zSi Z 183 3 3) fun Z104 =>
    some ((), Z104)
  else
    mjLet (zSi Z 183 3 1) fun Z105 =>
    some ((), Z105)
theorem f65_takeWord_j92_ok  (Z : mjZt) (v9 : Unit) (Z9 : mjZt) (h : f65_takeWord_j92  Z = some (v9, Z9)) : pG 65 92 [some (.ref 183)] [] (mjTo Z) (fun r M1 => r = none ∧ M1 = mjTo Z9) := by
  unfold f65_takeWord_j92 at h
  refine pG_many 2 (pc1 := 94) (L1 := [some (.ref 183)]) (st1 := [.ref 183, .ref 183]) (M1 := mjTo Z) (fun _ _ => rfl) ?_
  refine pG_getI (ci := 9) (f := 2) rfl rfl (Or.inl rfl) (by rfl) (by decide) ?_
  refine pG_many 1 (pc1 := 98) (L1 := [some (.ref 183)]) (st1 := [.ref 183, .int (Z.1 183 2), .ref 183]) (M1 := mjTo Z) (fun _ _ => rfl) ?_
  refine pG_getI (ci := 9) (f := 4) rfl rfl (Or.inl rfl) (by rfl) (by decide) ?_
  refine pG_many 2 (pc1 := 104) (L1 := [some (.ref 183)]) (st1 := [.int 8, .int ((Z.1 183 2) - (Z.1 183 4)), .ref 183]) (M1 := mjTo Z) (fun _ _ => rfl) ?_
  by_cases hc103 : mjCmp .gt ((Z.1 183 2) - (Z.1 183 4)) 8 = true
  · rw [if_pos hc103] at h
    refine pG_cmt (t := 111) rfl rfl hc103 ?_
    refine pG_many 1 (pc1 := 112) (L1 := [some (.ref 183)]) (st1 := [.int 3, .ref 183]) (M1 := mjTo Z) (fun _ _ => rfl) ?_
    refine pG_putI (ci := 9) (f := 3) rfl rfl rfl rfl (by rfl) (by decide) ?_
    rw [mjLet] at h
    generalize zSi Z 183 3 3 = Z104 at h ⊢
    simp only [Option.some.injEq, Prod.mk.injEq] at h
    obtain ⟨-, rfl⟩ := h
    exact pG_ret (r := none) rfl ⟨rfl, rfl⟩
  · rw [if_neg hc103] at h
    refine pG_cmf (t := 111) rfl rfl hc103 ?_
    refine pG_many 2 (pc1 := 112) (L1 := [some (.ref 183)]) (st1 := [.int 1, .ref 183]) (M1 := mjTo Z) (fun _ _ => rfl) ?_
    refine pG_putI (ci := 9) (f := 3) rfl rfl rfl rfl (by rfl) (by decide) ?_
    rw [mjLet] at h
    generalize zSi Z 183 3 1 = Z105 at h ⊢
    simp only [Option.some.injEq, Prod.mk.injEq] at h
    obtain ⟨-, rfl⟩ := h
    exact pG_ret (r := none) rfl ⟨rfl, rfl⟩
def f65_takeWord_h5 : Nat → mjZt → Option (Unit × mjZt)
  | 0, _ => none
  | n + 1, Z =>
    if mjCmp .ge (Z.1 183 2) (Z.1 183 1) = true then
      f65_takeWord_j92  Z
    else
      mjBp (f63_byteAt (Z.1 183 2) Z) fun v107 =>
      mjBp (f64_isLetter v107 Z) fun v110 =>
      if mjCmp .eq v110 0 = true then
        f65_takeWord_j92  Z
      else
        if mjCmp .ge ((Z.1 183 2) - (Z.1 183 4)) 8 = true then
          mjLet (zSi Z 183 2 ((Z.1 183 2) + 1)) fun Z114 =>
          f65_takeWord_h5 n  Z114
        else
          mjLet (zSl Z 183 6 ((Z.2.1 183 6) ||| ((Int32.toInt64 ((v107 - 97) + 1)) <<< (Int32.toInt64 (5 * ((Z.1 183 2) - (Z.1 183 4))) &&& 63)))) fun Z118 =>
          mjLet (zSi Z118 183 2 ((Z118.1 183 2) + 1)) fun Z119 =>
          f65_takeWord_h5 n  Z119
theorem f65_takeWord_h5_ok : ∀ (n : Nat)  (Z : mjZt) (v9 : Unit) (Z9 : mjZt), f65_takeWord_h5 n  Z = some (v9, Z9) → pG 65 5 [some (.ref 183)] [] (mjTo Z) (fun r M1 => r = none ∧ M1 = mjTo Z9)
  | 0, Z, v9, Z9, h => by rw [f65_takeWord_h5] at h; cases h
  | n + 1, Z, v9, Z9, h => by
      rw [f65_takeWord_h5] at h
      refine pG_many 1 (pc1 := 6) (L1 := [some (.ref 183)]) (st1 := [.ref 183]) (M1 := mjTo Z) (fun _ _ => rfl) ?_
      refine pG_getI (ci := 9) (f := 2) rfl rfl (Or.inl rfl) (by rfl) (by decide) ?_
      refine pG_many 1 (pc1 := 10) (L1 := [some (.ref 183)]) (st1 := [.ref 183, .int (Z.1 183 2)]) (M1 := mjTo Z) (fun _ _ => rfl) ?_
      refine pG_getI (ci := 9) (f := 1) rfl rfl (Or.inl rfl) (by rfl) (by decide) ?_
      by_cases hc102 : mjCmp .ge (Z.1 183 2) (Z.1 183 1) = true
      · rw [if_pos hc102] at h
        refine pG_cmt (t := 92) rfl rfl hc102 ?_
        exact f65_takeWord_j92_ok Z v9 Z9 h
      · rw [if_neg hc102] at h
        refine pG_cmf (t := 92) rfl rfl hc102 ?_
        refine pG_many 2 (pc1 := 18) (L1 := [some (.ref 183)]) (st1 := [.ref 183, .ref 183]) (M1 := mjTo Z) (fun _ _ => rfl) ?_
        refine pG_getI (ci := 9) (f := 2) rfl rfl (Or.inl rfl) (by rfl) (by decide) ?_
        cases hq106 : f63_byteAt (Z.1 183 2) Z with
        | none => rw [hq106] at h; cases h
        | some v107 =>
          rw [hq106, mjBp_some] at h
          refine pG_callV (k2 := 63) (As := [.ref 183, .int (Z.1 183 2)]) (rest := []) rfl rfl rfl rfl rfl (by rfl) (by decide) (by decide) (f63_byteAt_ok hq106) ?_
          rintro r9 M9 ⟨rfl, rfl⟩
          show pG 65 24 [some (.ref 183)] [.int v107] (mjTo Z) _
          cases hq109 : f64_isLetter v107 Z with
          | none => rw [hq109] at h; cases h
          | some v110 =>
            rw [hq109, mjBp_some] at h
            refine pG_call (k2 := 64) (As := [.int v107]) (rest := []) (fun _ _ => rfl) (by decide) (by decide) (f64_isLetter_ok hq109) ?_
            rintro r9 M9 ⟨rfl, rfl⟩
            show pG 65 27 [some (.ref 183)] [.int v110] (mjTo Z) _
            by_cases hc112 : mjCmp .eq v110 0 = true
            · rw [if_pos hc112] at h
              refine pG_ift (t := 92) rfl rfl hc112 ?_
              exact f65_takeWord_j92_ok Z v9 Z9 h
            · rw [if_neg hc112] at h
              refine pG_iff (t := 92) rfl rfl hc112 ?_
              refine pG_many 1 (pc1 := 31) (L1 := [some (.ref 183)]) (st1 := [.ref 183]) (M1 := mjTo Z) (fun _ _ => rfl) ?_
              refine pG_getI (ci := 9) (f := 2) rfl rfl (Or.inl rfl) (by rfl) (by decide) ?_
              refine pG_many 1 (pc1 := 35) (L1 := [some (.ref 183)]) (st1 := [.ref 183, .int (Z.1 183 2)]) (M1 := mjTo Z) (fun _ _ => rfl) ?_
              refine pG_getI (ci := 9) (f := 4) rfl rfl (Or.inl rfl) (by rfl) (by decide) ?_
              refine pG_many 2 (pc1 := 41) (L1 := [some (.ref 183)]) (st1 := [.int 8, .int ((Z.1 183 2) - (Z.1 183 4))]) (M1 := mjTo Z) (fun _ _ => rfl) ?_
              by_cases hc113 : mjCmp .ge ((Z.1 183 2) - (Z.1 183 4)) 8 = true
              · rw [if_pos hc113] at h
                refine pG_cmt (t := 79) rfl rfl hc113 ?_
                refine pG_many 2 (pc1 := 81) (L1 := [some (.ref 183)]) (st1 := [.ref 183, .ref 183]) (M1 := mjTo Z) (fun _ _ => rfl) ?_
                refine pG_getI (ci := 9) (f := 2) rfl rfl (Or.inl rfl) (by rfl) (by decide) ?_
                refine pG_many 2 (pc1 := 86) (L1 := [some (.ref 183)]) (st1 := [.int ((Z.1 183 2) + 1), .ref 183]) (M1 := mjTo Z) (fun _ _ => rfl) ?_
                refine pG_putI (ci := 9) (f := 2) rfl rfl rfl rfl (by rfl) (by decide) ?_
                rw [mjLet] at h
                generalize zSi Z 183 2 ((Z.1 183 2) + 1) = Z114 at h ⊢
                refine pG_many 1 (pc1 := 5) (L1 := [some (.ref 183)]) (st1 := []) (M1 := mjTo Z114) (fun _ _ => rfl) ?_
                exact f65_takeWord_h5_ok n Z114 v9 Z9 h
              · rw [if_neg hc113] at h
                refine pG_cmf (t := 79) rfl rfl hc113 ?_
                refine pG_many 2 (pc1 := 46) (L1 := [some (.ref 183)]) (st1 := [.ref 183, .ref 183]) (M1 := mjTo Z) (fun _ _ => rfl) ?_
                refine pG_getL (ci := 9) (f := 6) rfl rfl rfl (by rfl) (by decide) ?_
                refine pG_many 2 (pc1 := 51) (L1 := [some (.ref 183)]) (st1 := [.ref 183, .ref 183, .long (Z.2.1 183 6), .ref 183]) (M1 := mjTo Z) (fun _ _ => rfl) ?_
                refine pG_getI (ci := 9) (f := 2) rfl rfl (Or.inl rfl) (by rfl) (by decide) ?_
                refine pG_callV (k2 := 63) (As := [.ref 183, .int (Z.1 183 2)]) (rest := [.long (Z.2.1 183 6), .ref 183]) rfl rfl rfl rfl rfl (by rfl) (by decide) (by decide) (f63_byteAt_ok hq106) ?_
                rintro r9 M9 ⟨rfl, rfl⟩
                show pG 65 57 [some (.ref 183)] [.int v107, .long (Z.2.1 183 6), .ref 183] (mjTo Z) _
                refine pG_many 7 (pc1 := 65) (L1 := [some (.ref 183)]) (st1 := [.ref 183, .int 5, .long (Int32.toInt64 ((v107 - 97) + 1)), .long (Z.2.1 183 6), .ref 183]) (M1 := mjTo Z) (fun _ _ => rfl) ?_
                refine pG_getI (ci := 9) (f := 2) rfl rfl (Or.inl rfl) (by rfl) (by decide) ?_
                refine pG_many 1 (pc1 := 69) (L1 := [some (.ref 183)]) (st1 := [.ref 183, .int (Z.1 183 2), .int 5, .long (Int32.toInt64 ((v107 - 97) + 1)), .long (Z.2.1 183 6), .ref 183]) (M1 := mjTo Z) (fun _ _ => rfl) ?_
                refine pG_getI (ci := 9) (f := 4) rfl rfl (Or.inl rfl) (by rfl) (by decide) ?_
                refine pG_many 4 (pc1 := 76) (L1 := [some (.ref 183)]) (st1 := [.long ((Z.2.1 183 6) ||| ((Int32.toInt64 ((v107 - 97) + 1)) <<< (Int32.toInt64 (5 * ((Z.1 183 2) - (Z.1 183 4))) &&& 63))), .ref 183]) (M1 := mjTo Z) (fun _ _ => rfl) ?_
                refine pG_putL (ci := 9) (f := 6) rfl rfl rfl rfl (by rfl) (by decide) ?_
                rw [mjLet] at h
                generalize zSl Z 183 6 ((Z.2.1 183 6) ||| ((Int32.toInt64 ((v107 - 97) + 1)) <<< (Int32.toInt64 (5 * ((Z.1 183 2) - (Z.1 183 4))) &&& 63))) = Z118 at h ⊢
                refine pG_many 2 (pc1 := 81) (L1 := [some (.ref 183)]) (st1 := [.ref 183, .ref 183]) (M1 := mjTo Z118) (fun _ _ => rfl) ?_
                refine pG_getI (ci := 9) (f := 2) rfl rfl (Or.inl rfl) (by rfl) (by decide) ?_
                refine pG_many 2 (pc1 := 86) (L1 := [some (.ref 183)]) (st1 := [.int ((Z118.1 183 2) + 1), .ref 183]) (M1 := mjTo Z118) (fun _ _ => rfl) ?_
                refine pG_putI (ci := 9) (f := 2) rfl rfl rfl rfl (by rfl) (by decide) ?_
                rw [mjLet] at h
                generalize zSi Z118 183 2 ((Z118.1 183 2) + 1) = Z119 at h ⊢
                refine pG_many 1 (pc1 := 5) (L1 := [some (.ref 183)]) (st1 := []) (M1 := mjTo Z119) (fun _ _ => rfl) ?_
                exact f65_takeWord_h5_ok n Z119 v9 Z9 h
def f65_takeWord  (Z : mjZt) : Option (Unit × mjZt) :=
  mjLet (zSl Z 183 6 0) fun Z101 =>
  f65_takeWord_h5 mjF  Z101
theorem f65_takeWord_ok  {Z : mjZt} {v9 : Unit} {Z9 : mjZt} (h : f65_takeWord  Z = some (v9, Z9)) : pG 65 0 (mjEnt [.ref 183] (mjML 65)) [] (mjTo Z) (fun r M1 => r = none ∧ M1 = mjTo Z9) := by
  unfold f65_takeWord at h
  show pG 65 0 [some (.ref 183)] [] (mjTo Z) _
  refine pG_many 2 (pc1 := 2) (L1 := [some (.ref 183)]) (st1 := [.long 0, .ref 183]) (M1 := mjTo Z) (fun _ _ => rfl) ?_
  refine pG_putL (ci := 9) (f := 6) rfl rfl rfl rfl (by rfl) (by decide) ?_
  rw [mjLet] at h
  generalize zSl Z 183 6 0 = Z101 at h ⊢
  exact f65_takeWord_h5_ok mjF Z101 v9 Z9 h
def f66_isDigit (p0 : Int32) (Z : mjZt) : Option Int32 :=
  if mjCmp .lt p0 48 = true then
    some 0
  else
    if mjCmp .gt p0 57 = true then
      some 0
    else
      some 1
theorem f66_isDigit_ok {p0 : Int32} {Z : mjZt} {v9 : Int32} (h : f66_isDigit p0 Z = some v9) : pG 66 0 (mjEnt [.int p0] (mjML 66)) [] (mjTo Z) (fun r M1 => r = some (.int v9) ∧ M1 = mjTo Z) := by
  unfold f66_isDigit at h
  show pG 66 0 [some (.int p0)] [] (mjTo Z) _
  refine pG_many 2 (pc1 := 3) (L1 := [some (.int p0)]) (st1 := [.int 48, .int p0]) (M1 := mjTo Z) (fun _ _ => rfl) ?_
  by_cases hc101 : mjCmp .lt p0 48 = true
  · rw [if_pos hc101] at h
    refine pG_cmt (t := 16) rfl rfl hc101 ?_
    refine pG_many 1 (pc1 := 17) (L1 := [some (.int p0)]) (st1 := [.int 0]) (M1 := mjTo Z) (fun _ _ => rfl) ?_
    simp only [Option.some.injEq] at h
    subst h
    exact pG_ret (r := some (.int 0)) rfl ⟨rfl, rfl⟩
  · rw [if_neg hc101] at h
    refine pG_cmf (t := 16) rfl rfl hc101 ?_
    refine pG_many 2 (pc1 := 9) (L1 := [some (.int p0)]) (st1 := [.int 57, .int p0]) (M1 := mjTo Z) (fun _ _ => rfl) ?_
    by_cases hc102 : mjCmp .gt p0 57 = true
    · rw [if_pos hc102] at h
      refine pG_cmt (t := 16) rfl rfl hc102 ?_
      refine pG_many 1 (pc1 := 17) (L1 := [some (.int p0)]) (st1 := [.int 0]) (M1 := mjTo Z) (fun _ _ => rfl) ?_
      simp only [Option.some.injEq] at h
      subst h
      exact pG_ret (r := some (.int 0)) rfl ⟨rfl, rfl⟩
    · rw [if_neg hc102] at h
      refine pG_cmf (t := 16) rfl rfl hc102 ?_
      refine pG_many 2 (pc1 := 17) (L1 := [some (.int p0)]) (st1 := [.int 1]) (M1 := mjTo Z) (fun _ _ => rfl) ?_
      simp only [Option.some.injEq] at h
      subst h
      exact pG_ret (r := some (.int 1)) rfl ⟨rfl, rfl⟩
def f67_takeNumber_j79  (Z : mjZt) : Option (Unit × mjZt) :=
  if mjCmp .gt ((Z.1 183 2) - (Z.1 183 4)) 4 = true then
    mjLet (zSi Z 183 3 3) fun Z104 =>
    some ((), Z104)
  else
    mjLet (zSi Z 183 3 2) fun Z105 =>
    some ((), Z105)
theorem f67_takeNumber_j79_ok  (Z : mjZt) (v9 : Unit) (Z9 : mjZt) (h : f67_takeNumber_j79  Z = some (v9, Z9)) : pG 67 79 [some (.ref 183)] [] (mjTo Z) (fun r M1 => r = none ∧ M1 = mjTo Z9) := by
  unfold f67_takeNumber_j79 at h
  refine pG_many 2 (pc1 := 81) (L1 := [some (.ref 183)]) (st1 := [.ref 183, .ref 183]) (M1 := mjTo Z) (fun _ _ => rfl) ?_
  refine pG_getI (ci := 9) (f := 2) rfl rfl (Or.inl rfl) (by rfl) (by decide) ?_
  refine pG_many 1 (pc1 := 85) (L1 := [some (.ref 183)]) (st1 := [.ref 183, .int (Z.1 183 2), .ref 183]) (M1 := mjTo Z) (fun _ _ => rfl) ?_
  refine pG_getI (ci := 9) (f := 4) rfl rfl (Or.inl rfl) (by rfl) (by decide) ?_
  refine pG_many 2 (pc1 := 90) (L1 := [some (.ref 183)]) (st1 := [.int 4, .int ((Z.1 183 2) - (Z.1 183 4)), .ref 183]) (M1 := mjTo Z) (fun _ _ => rfl) ?_
  by_cases hc103 : mjCmp .gt ((Z.1 183 2) - (Z.1 183 4)) 4 = true
  · rw [if_pos hc103] at h
    refine pG_cmt (t := 97) rfl rfl hc103 ?_
    refine pG_many 1 (pc1 := 98) (L1 := [some (.ref 183)]) (st1 := [.int 3, .ref 183]) (M1 := mjTo Z) (fun _ _ => rfl) ?_
    refine pG_putI (ci := 9) (f := 3) rfl rfl rfl rfl (by rfl) (by decide) ?_
    rw [mjLet] at h
    generalize zSi Z 183 3 3 = Z104 at h ⊢
    simp only [Option.some.injEq, Prod.mk.injEq] at h
    obtain ⟨-, rfl⟩ := h
    exact pG_ret (r := none) rfl ⟨rfl, rfl⟩
  · rw [if_neg hc103] at h
    refine pG_cmf (t := 97) rfl rfl hc103 ?_
    refine pG_many 2 (pc1 := 98) (L1 := [some (.ref 183)]) (st1 := [.int 2, .ref 183]) (M1 := mjTo Z) (fun _ _ => rfl) ?_
    refine pG_putI (ci := 9) (f := 3) rfl rfl rfl rfl (by rfl) (by decide) ?_
    rw [mjLet] at h
    generalize zSi Z 183 3 2 = Z105 at h ⊢
    simp only [Option.some.injEq, Prod.mk.injEq] at h
    obtain ⟨-, rfl⟩ := h
    exact pG_ret (r := none) rfl ⟨rfl, rfl⟩
def f67_takeNumber_h5 : Nat → mjZt → Option (Unit × mjZt)
  | 0, _ => none
  | n + 1, Z =>
    if mjCmp .ge (Z.1 183 2) (Z.1 183 1) = true then
      f67_takeNumber_j79  Z
    else
      mjBp (f63_byteAt (Z.1 183 2) Z) fun v107 =>
      mjBp (f66_isDigit v107 Z) fun v110 =>
      if mjCmp .eq v110 0 = true then
        f67_takeNumber_j79  Z
      else
        if mjCmp .ge ((Z.1 183 2) - (Z.1 183 4)) 4 = true then
          mjLet (zSi Z 183 2 ((Z.1 183 2) + 1)) fun Z114 =>
          f67_takeNumber_h5 n  Z114
        else
          mjLet (zSi Z 183 5 ((((Z.1 183 5) * 10) + v107) - 48)) fun Z118 =>
          mjLet (zSi Z118 183 2 ((Z118.1 183 2) + 1)) fun Z119 =>
          f67_takeNumber_h5 n  Z119
theorem f67_takeNumber_h5_ok : ∀ (n : Nat)  (Z : mjZt) (v9 : Unit) (Z9 : mjZt), f67_takeNumber_h5 n  Z = some (v9, Z9) → pG 67 5 [some (.ref 183)] [] (mjTo Z) (fun r M1 => r = none ∧ M1 = mjTo Z9)
  | 0, Z, v9, Z9, h => by rw [f67_takeNumber_h5] at h; cases h
  | n + 1, Z, v9, Z9, h => by
      rw [f67_takeNumber_h5] at h
      refine pG_many 1 (pc1 := 6) (L1 := [some (.ref 183)]) (st1 := [.ref 183]) (M1 := mjTo Z) (fun _ _ => rfl) ?_
      refine pG_getI (ci := 9) (f := 2) rfl rfl (Or.inl rfl) (by rfl) (by decide) ?_
      refine pG_many 1 (pc1 := 10) (L1 := [some (.ref 183)]) (st1 := [.ref 183, .int (Z.1 183 2)]) (M1 := mjTo Z) (fun _ _ => rfl) ?_
      refine pG_getI (ci := 9) (f := 1) rfl rfl (Or.inl rfl) (by rfl) (by decide) ?_
      by_cases hc102 : mjCmp .ge (Z.1 183 2) (Z.1 183 1) = true
      · rw [if_pos hc102] at h
        refine pG_cmt (t := 79) rfl rfl hc102 ?_
        exact f67_takeNumber_j79_ok Z v9 Z9 h
      · rw [if_neg hc102] at h
        refine pG_cmf (t := 79) rfl rfl hc102 ?_
        refine pG_many 2 (pc1 := 18) (L1 := [some (.ref 183)]) (st1 := [.ref 183, .ref 183]) (M1 := mjTo Z) (fun _ _ => rfl) ?_
        refine pG_getI (ci := 9) (f := 2) rfl rfl (Or.inl rfl) (by rfl) (by decide) ?_
        cases hq106 : f63_byteAt (Z.1 183 2) Z with
        | none => rw [hq106] at h; cases h
        | some v107 =>
          rw [hq106, mjBp_some] at h
          refine pG_callV (k2 := 63) (As := [.ref 183, .int (Z.1 183 2)]) (rest := []) rfl rfl rfl rfl rfl (by rfl) (by decide) (by decide) (f63_byteAt_ok hq106) ?_
          rintro r9 M9 ⟨rfl, rfl⟩
          show pG 67 24 [some (.ref 183)] [.int v107] (mjTo Z) _
          cases hq109 : f66_isDigit v107 Z with
          | none => rw [hq109] at h; cases h
          | some v110 =>
            rw [hq109, mjBp_some] at h
            refine pG_call (k2 := 66) (As := [.int v107]) (rest := []) (fun _ _ => rfl) (by decide) (by decide) (f66_isDigit_ok hq109) ?_
            rintro r9 M9 ⟨rfl, rfl⟩
            show pG 67 27 [some (.ref 183)] [.int v110] (mjTo Z) _
            by_cases hc112 : mjCmp .eq v110 0 = true
            · rw [if_pos hc112] at h
              refine pG_ift (t := 79) rfl rfl hc112 ?_
              exact f67_takeNumber_j79_ok Z v9 Z9 h
            · rw [if_neg hc112] at h
              refine pG_iff (t := 79) rfl rfl hc112 ?_
              refine pG_many 1 (pc1 := 31) (L1 := [some (.ref 183)]) (st1 := [.ref 183]) (M1 := mjTo Z) (fun _ _ => rfl) ?_
              refine pG_getI (ci := 9) (f := 2) rfl rfl (Or.inl rfl) (by rfl) (by decide) ?_
              refine pG_many 1 (pc1 := 35) (L1 := [some (.ref 183)]) (st1 := [.ref 183, .int (Z.1 183 2)]) (M1 := mjTo Z) (fun _ _ => rfl) ?_
              refine pG_getI (ci := 9) (f := 4) rfl rfl (Or.inl rfl) (by rfl) (by decide) ?_
              refine pG_many 2 (pc1 := 40) (L1 := [some (.ref 183)]) (st1 := [.int 4, .int ((Z.1 183 2) - (Z.1 183 4))]) (M1 := mjTo Z) (fun _ _ => rfl) ?_
              by_cases hc113 : mjCmp .ge ((Z.1 183 2) - (Z.1 183 4)) 4 = true
              · rw [if_pos hc113] at h
                refine pG_cmt (t := 66) rfl rfl hc113 ?_
                refine pG_many 2 (pc1 := 68) (L1 := [some (.ref 183)]) (st1 := [.ref 183, .ref 183]) (M1 := mjTo Z) (fun _ _ => rfl) ?_
                refine pG_getI (ci := 9) (f := 2) rfl rfl (Or.inl rfl) (by rfl) (by decide) ?_
                refine pG_many 2 (pc1 := 73) (L1 := [some (.ref 183)]) (st1 := [.int ((Z.1 183 2) + 1), .ref 183]) (M1 := mjTo Z) (fun _ _ => rfl) ?_
                refine pG_putI (ci := 9) (f := 2) rfl rfl rfl rfl (by rfl) (by decide) ?_
                rw [mjLet] at h
                generalize zSi Z 183 2 ((Z.1 183 2) + 1) = Z114 at h ⊢
                refine pG_many 1 (pc1 := 5) (L1 := [some (.ref 183)]) (st1 := []) (M1 := mjTo Z114) (fun _ _ => rfl) ?_
                exact f67_takeNumber_h5_ok n Z114 v9 Z9 h
              · rw [if_neg hc113] at h
                refine pG_cmf (t := 66) rfl rfl hc113 ?_
                refine pG_many 2 (pc1 := 45) (L1 := [some (.ref 183)]) (st1 := [.ref 183, .ref 183]) (M1 := mjTo Z) (fun _ _ => rfl) ?_
                refine pG_getI (ci := 9) (f := 5) rfl rfl (Or.inl rfl) (by rfl) (by decide) ?_
                refine pG_many 4 (pc1 := 53) (L1 := [some (.ref 183)]) (st1 := [.ref 183, .ref 183, .int ((Z.1 183 5) * 10), .ref 183]) (M1 := mjTo Z) (fun _ _ => rfl) ?_
                refine pG_getI (ci := 9) (f := 2) rfl rfl (Or.inl rfl) (by rfl) (by decide) ?_
                refine pG_callV (k2 := 63) (As := [.ref 183, .int (Z.1 183 2)]) (rest := [.int ((Z.1 183 5) * 10), .ref 183]) rfl rfl rfl rfl rfl (by rfl) (by decide) (by decide) (f63_byteAt_ok hq106) ?_
                rintro r9 M9 ⟨rfl, rfl⟩
                show pG 67 59 [some (.ref 183)] [.int v107, .int ((Z.1 183 5) * 10), .ref 183] (mjTo Z) _
                refine pG_many 3 (pc1 := 63) (L1 := [some (.ref 183)]) (st1 := [.int ((((Z.1 183 5) * 10) + v107) - 48), .ref 183]) (M1 := mjTo Z) (fun _ _ => rfl) ?_
                refine pG_putI (ci := 9) (f := 5) rfl rfl rfl rfl (by rfl) (by decide) ?_
                rw [mjLet] at h
                generalize zSi Z 183 5 ((((Z.1 183 5) * 10) + v107) - 48) = Z118 at h ⊢
                refine pG_many 2 (pc1 := 68) (L1 := [some (.ref 183)]) (st1 := [.ref 183, .ref 183]) (M1 := mjTo Z118) (fun _ _ => rfl) ?_
                refine pG_getI (ci := 9) (f := 2) rfl rfl (Or.inl rfl) (by rfl) (by decide) ?_
                refine pG_many 2 (pc1 := 73) (L1 := [some (.ref 183)]) (st1 := [.int ((Z118.1 183 2) + 1), .ref 183]) (M1 := mjTo Z118) (fun _ _ => rfl) ?_
                refine pG_putI (ci := 9) (f := 2) rfl rfl rfl rfl (by rfl) (by decide) ?_
                rw [mjLet] at h
                generalize zSi Z118 183 2 ((Z118.1 183 2) + 1) = Z119 at h ⊢
                refine pG_many 1 (pc1 := 5) (L1 := [some (.ref 183)]) (st1 := []) (M1 := mjTo Z119) (fun _ _ => rfl) ?_
                exact f67_takeNumber_h5_ok n Z119 v9 Z9 h
def f67_takeNumber  (Z : mjZt) : Option (Unit × mjZt) :=
  mjLet (zSi Z 183 5 0) fun Z101 =>
  f67_takeNumber_h5 mjF  Z101
theorem f67_takeNumber_ok  {Z : mjZt} {v9 : Unit} {Z9 : mjZt} (h : f67_takeNumber  Z = some (v9, Z9)) : pG 67 0 (mjEnt [.ref 183] (mjML 67)) [] (mjTo Z) (fun r M1 => r = none ∧ M1 = mjTo Z9) := by
  unfold f67_takeNumber at h
  show pG 67 0 [some (.ref 183)] [] (mjTo Z) _
  refine pG_many 2 (pc1 := 2) (L1 := [some (.ref 183)]) (st1 := [.int 0, .ref 183]) (M1 := mjTo Z) (fun _ _ => rfl) ?_
  refine pG_putI (ci := 9) (f := 5) rfl rfl rfl rfl (by rfl) (by decide) ?_
  rw [mjLet] at h
  generalize zSi Z 183 5 0 = Z101 at h ⊢
  exact f67_takeNumber_h5_ok mjF Z101 v9 Z9 h
def f337_canEncode (p0 : Int32) (Z : mjZt) : Option Int32 :=
  if mjCmp .lt p0 0 = true then
    some 0
  else
    if mjCmp .gt p0 255 = true then
      some 0
    else
      some 1
theorem f337_canEncode_ok {p0 : Int32} {Z : mjZt} {v9 : Int32} (h : f337_canEncode p0 Z = some v9) : pG 180 0 (mjEnt [.int p0] (mjML 180)) [] (mjTo Z) (fun r M1 => r = some (.int v9) ∧ M1 = mjTo Z) := by
  unfold f337_canEncode at h
  show pG 180 0 [some (.int p0)] [] (mjTo Z) _
  refine pG_many 1 (pc1 := 1) (L1 := [some (.int p0)]) (st1 := [.int p0]) (M1 := mjTo Z) (fun _ _ => rfl) ?_
  by_cases hc101 : mjCmp .lt p0 0 = true
  · rw [if_pos hc101] at h
    refine pG_ift (t := 15) rfl rfl hc101 ?_
    refine pG_many 1 (pc1 := 16) (L1 := [some (.int p0)]) (st1 := [.int 0]) (M1 := mjTo Z) (fun _ _ => rfl) ?_
    simp only [Option.some.injEq] at h
    subst h
    exact pG_ret (r := some (.int 0)) rfl ⟨rfl, rfl⟩
  · rw [if_neg hc101] at h
    refine pG_iff (t := 15) rfl rfl hc101 ?_
    refine pG_many 2 (pc1 := 8) (L1 := [some (.int p0)]) (st1 := [.int 255, .int p0]) (M1 := mjTo Z) (fun _ _ => rfl) ?_
    by_cases hc102 : mjCmp .gt p0 255 = true
    · rw [if_pos hc102] at h
      refine pG_cmt (t := 15) rfl rfl hc102 ?_
      refine pG_many 1 (pc1 := 16) (L1 := [some (.int p0)]) (st1 := [.int 0]) (M1 := mjTo Z) (fun _ _ => rfl) ?_
      simp only [Option.some.injEq] at h
      subst h
      exact pG_ret (r := some (.int 0)) rfl ⟨rfl, rfl⟩
    · rw [if_neg hc102] at h
      refine pG_cmf (t := 15) rfl rfl hc102 ?_
      refine pG_many 2 (pc1 := 16) (L1 := [some (.int p0)]) (st1 := [.int 1]) (M1 := mjTo Z) (fun _ _ => rfl) ?_
      simp only [Option.some.injEq] at h
      subst h
      exact pG_ret (r := some (.int 1)) rfl ⟨rfl, rfl⟩
def f338_indexOfChar_h7 : Nat → Nat → Int32 → Int32 → Int32 → mjZt → Option Int32
  | 0, _, _, _, _, _ => none
  | n + 1, x0, x3, x4, x5, Z =>
    if mjCmp .ge x5 x3 = true then
      some ((-1))
    else
      if mjSbd x0 = true then
      if mjIn x5 (mjTx0 (x0 - 1100000)).length = true then
      if mjCmp .ne ((mjTx0 (x0 - 1100000)).getD (mjIx x5) 0) x4 = true then
        f338_indexOfChar_h7 n x0 x3 x4 (x5 + 1) Z
      else
        some x5
      else none
      else none
theorem f338_indexOfChar_h7_ok : ∀ (n : Nat) (x0 : Nat) (x3 : Int32) (x4 : Int32) (x5 : Int32) (d1 d2 : Option Value) (Z : mjZt) (v9 : Int32), f338_indexOfChar_h7 n x0 x3 x4 x5 Z = some v9 → pG 181 7 [some (.ref x0), d1, d2, some (.int x3), some (.int x4), some (.int x5)] [] (mjTo Z) (fun r M1 => r = some (.int v9) ∧ M1 = mjTo Z)
  | 0, x0, x3, x4, x5, d1, d2, Z, v9, h => by rw [f338_indexOfChar_h7] at h; cases h
  | n + 1, x0, x3, x4, x5, d1, d2, Z, v9, h => by
      rw [f338_indexOfChar_h7] at h
      refine pG_many 2 (pc1 := 10) (L1 := [some (.ref x0), d1, d2, some (.int x3), some (.int x4), some (.int x5)]) (st1 := [.int x3, .int x5]) (M1 := mjTo Z) (fun _ _ => rfl) ?_
      by_cases hc101 : mjCmp .ge x5 x3 = true
      · rw [if_pos hc101] at h
        refine pG_cmt (t := 31) rfl rfl hc101 ?_
        refine pG_many 1 (pc1 := 32) (L1 := [some (.ref x0), d1, d2, some (.int x3), some (.int x4), some (.int x5)]) (st1 := [.int ((-1))]) (M1 := mjTo Z) (fun _ _ => rfl) ?_
        simp only [Option.some.injEq] at h
        subst h
        exact pG_ret (r := some (.int ((-1)))) rfl ⟨rfl, rfl⟩
      · rw [if_neg hc101] at h
        refine pG_cmf (t := 31) rfl rfl hc101 ?_
        refine pG_many 2 (pc1 := 16) (L1 := [some (.ref x0), d1, d2, some (.int x3), some (.int x4), some (.int x5)]) (st1 := [.int x5, .ref x0]) (M1 := mjTo Z) (fun _ _ => rfl) ?_
        have hk102 : mjSbd x0 = true := by
          by_cases q9 : mjSbd x0 = true
          · exact q9
          · rw [if_neg q9] at h; cases h
        rw [if_pos hk102] at h
        have hk103 : mjIn x5 (mjTx0 (x0 - 1100000)).length = true := by
          by_cases q9 : mjIn x5 (mjTx0 (x0 - 1100000)).length = true
          · exact q9
          · rw [if_neg q9] at h; cases h
        rw [if_pos hk103] at h
        refine pG_bbl rfl hk102 hk103 ?_
        refine pG_many 1 (pc1 := 19) (L1 := [some (.ref x0), d1, d2, some (.int x3), some (.int x4), some (.int x5)]) (st1 := [.int x4, .int ((mjTx0 (x0 - 1100000)).getD (mjIx x5) 0)]) (M1 := mjTo Z) (fun _ _ => rfl) ?_
        by_cases hc104 : mjCmp .ne ((mjTx0 (x0 - 1100000)).getD (mjIx x5) 0) x4 = true
        · rw [if_pos hc104] at h
          refine pG_cmt (t := 25) rfl rfl hc104 ?_
          refine pG_many 2 (pc1 := 7) (L1 := [some (.ref x0), d1, d2, some (.int x3), some (.int x4), some (.int (x5 + 1))]) (st1 := []) (M1 := mjTo Z) (fun _ _ => rfl) ?_
          exact f338_indexOfChar_h7_ok n x0 x3 x4 (x5 + 1) d1 d2 Z v9 h
        · rw [if_neg hc104] at h
          refine pG_cmf (t := 25) rfl rfl hc104 ?_
          refine pG_many 1 (pc1 := 24) (L1 := [some (.ref x0), d1, d2, some (.int x3), some (.int x4), some (.int x5)]) (st1 := [.int x5]) (M1 := mjTo Z) (fun _ _ => rfl) ?_
          simp only [Option.some.injEq] at h
          subst h
          exact pG_ret (r := some (.int x5)) rfl ⟨rfl, rfl⟩
def f338_indexOfChar (p0 : Nat) (p1 : Int32) (p2 : Int32) (p3 : Int32) (Z : mjZt) : Option Int32 :=
  f338_indexOfChar_h7 mjF p0 p3 p1.toInt8.toInt32 p2 Z
theorem f338_indexOfChar_ok {p0 : Nat} {p1 : Int32} {p2 : Int32} {p3 : Int32} {Z : mjZt} {v9 : Int32} (h : f338_indexOfChar p0 p1 p2 p3 Z = some v9) : pG 181 0 (mjEnt [.ref p0, .int p1, .int p2, .int p3] (mjML 181)) [] (mjTo Z) (fun r M1 => r = some (.int v9) ∧ M1 = mjTo Z) := by
  unfold f338_indexOfChar at h
  show pG 181 0 [some (.ref p0), some (.int p1), some (.int p2), some (.int p3), none, none] [] (mjTo Z) _
  refine pG_many 5 (pc1 := 7) (L1 := [some (.ref p0), some (.int p1), some (.int p2), some (.int p3), some (.int p1.toInt8.toInt32), some (.int p2)]) (st1 := []) (M1 := mjTo Z) (fun _ _ => rfl) ?_
  exact f338_indexOfChar_h7_ok mjF p0 p3 p1.toInt8.toInt32 p2 (some (.int p1)) (some (.int p2)) Z v9 h
def f336_indexOf (p0 : Nat) (p1 : Int32) (p2 : Int32) (p3 : Int32) (Z : mjZt) : Option Int32 :=
  mjBp (f337_canEncode p1 Z) fun v102 =>
  if mjCmp .ne v102 0 = true then
    if mjSbd p0 = true then
    if mjCmp .lt (mjMax p2 0) (mjMin p3 (Int32.ofNat (mjTx0 (p0 - 1100000)).length)) = true then
      mjBp (f338_indexOfChar p0 p1 (mjMax p2 0) (mjMin p3 (Int32.ofNat (mjTx0 (p0 - 1100000)).length)) Z) fun v108 =>
      some v108
    else
      some ((-1))
    else none
  else
    some ((-1))
theorem f336_indexOf_ok {p0 : Nat} {p1 : Int32} {p2 : Int32} {p3 : Int32} {Z : mjZt} {v9 : Int32} (h : f336_indexOf p0 p1 p2 p3 Z = some v9) : pG 179 0 (mjEnt [.ref p0, .int p1, .int p2, .int p3] (mjML 179)) [] (mjTo Z) (fun r M1 => r = some (.int v9) ∧ M1 = mjTo Z) := by
  unfold f336_indexOf at h
  show pG 179 0 [some (.ref p0), some (.int p1), some (.int p2), some (.int p3)] [] (mjTo Z) _
  refine pG_many 1 (pc1 := 1) (L1 := [some (.ref p0), some (.int p1), some (.int p2), some (.int p3)]) (st1 := [.int p1]) (M1 := mjTo Z) (fun _ _ => rfl) ?_
  cases hq101 : f337_canEncode p1 Z with
  | none => rw [hq101] at h; cases h
  | some v102 =>
    rw [hq101, mjBp_some] at h
    refine pG_call (k2 := 180) (As := [.int p1]) (rest := []) (fun _ _ => rfl) (by decide) (by decide) (f337_canEncode_ok hq101) ?_
    rintro r9 M9 ⟨rfl, rfl⟩
    show pG 179 4 [some (.ref p0), some (.int p1), some (.int p2), some (.int p3)] [.int v102] (mjTo Z) _
    by_cases hc104 : mjCmp .ne v102 0 = true
    · rw [if_pos hc104] at h
      refine pG_ift (t := 9) rfl rfl hc104 ?_
      refine pG_many 2 (pc1 := 11) (L1 := [some (.ref p0), some (.int p1), some (.int p2), some (.int p3)]) (st1 := [.int 0, .int p2]) (M1 := mjTo Z) (fun _ _ => rfl) ?_
      refine pG_prim (v := .int (mjMax p2 0)) (fun _ _ => rfl) (by decide) rfl ?_
      refine pG_many 3 (pc1 := 17) (L1 := [some (.ref p0), some (.int p1), some (.int (mjMax p2 0)), some (.int p3)]) (st1 := [.ref p0, .int p3]) (M1 := mjTo Z) (fun _ _ => rfl) ?_
      have hk105 : mjSbd p0 = true := by
        by_cases q9 : mjSbd p0 = true
        · exact q9
        · rw [if_neg q9] at h; cases h
      rw [if_pos hk105] at h
      refine pG_blen rfl hk105 ?_
      refine pG_prim (v := .int (mjMin p3 (Int32.ofNat (mjTx0 (p0 - 1100000)).length))) (fun _ _ => rfl) (by decide) rfl ?_
      refine pG_many 3 (pc1 := 24) (L1 := [some (.ref p0), some (.int p1), some (.int (mjMax p2 0)), some (.int (mjMin p3 (Int32.ofNat (mjTx0 (p0 - 1100000)).length)))]) (st1 := [.int (mjMin p3 (Int32.ofNat (mjTx0 (p0 - 1100000)).length)), .int (mjMax p2 0)]) (M1 := mjTo Z) (fun _ _ => rfl) ?_
      by_cases hc106 : mjCmp .lt (mjMax p2 0) (mjMin p3 (Int32.ofNat (mjTx0 (p0 - 1100000)).length)) = true
      · rw [if_pos hc106] at h
        refine pG_cmt (t := 29) rfl rfl hc106 ?_
        refine pG_many 4 (pc1 := 33) (L1 := [some (.ref p0), some (.int p1), some (.int (mjMax p2 0)), some (.int (mjMin p3 (Int32.ofNat (mjTx0 (p0 - 1100000)).length)))]) (st1 := [.int (mjMin p3 (Int32.ofNat (mjTx0 (p0 - 1100000)).length)), .int (mjMax p2 0), .int p1, .ref p0]) (M1 := mjTo Z) (fun _ _ => rfl) ?_
        cases hq107 : f338_indexOfChar p0 p1 (mjMax p2 0) (mjMin p3 (Int32.ofNat (mjTx0 (p0 - 1100000)).length)) Z with
        | none => rw [hq107] at h; cases h
        | some v108 =>
          rw [hq107, mjBp_some] at h
          refine pG_call (k2 := 181) (As := [.ref p0, .int p1, .int (mjMax p2 0), .int (mjMin p3 (Int32.ofNat (mjTx0 (p0 - 1100000)).length))]) (rest := []) (fun _ _ => rfl) (by decide) (by decide) (f338_indexOfChar_ok hq107) ?_
          rintro r9 M9 ⟨rfl, rfl⟩
          show pG 179 36 [some (.ref p0), some (.int p1), some (.int (mjMax p2 0)), some (.int (mjMin p3 (Int32.ofNat (mjTx0 (p0 - 1100000)).length)))] [.int v108] (mjTo Z) _
          simp only [Option.some.injEq] at h
          subst h
          exact pG_ret (r := some (.int v108)) rfl ⟨rfl, rfl⟩
      · rw [if_neg hc106] at h
        refine pG_cmf (t := 29) rfl rfl hc106 ?_
        refine pG_many 1 (pc1 := 28) (L1 := [some (.ref p0), some (.int p1), some (.int (mjMax p2 0)), some (.int (mjMin p3 (Int32.ofNat (mjTx0 (p0 - 1100000)).length)))]) (st1 := [.int ((-1))]) (M1 := mjTo Z) (fun _ _ => rfl) ?_
        simp only [Option.some.injEq] at h
        subst h
        exact pG_ret (r := some (.int ((-1)))) rfl ⟨rfl, rfl⟩
    · rw [if_neg hc104] at h
      refine pG_iff (t := 9) rfl rfl hc104 ?_
      refine pG_many 1 (pc1 := 8) (L1 := [some (.ref p0), some (.int p1), some (.int p2), some (.int p3)]) (st1 := [.int ((-1))]) (M1 := mjTo Z) (fun _ _ => rfl) ?_
      simp only [Option.some.injEq] at h
      subst h
      exact pG_ret (r := some (.int ((-1)))) rfl ⟨rfl, rfl⟩
def f334_indexOf (a0 : Nat) (p0 : Int32) (p1 : Int32) (Z : mjZt) : Option Int32 :=
  if mjSid a0 = true then
  mjBp (f330_isLatin1 a0 Z) fun v103 =>
  if mjCmp .eq v103 0 = true then
    mjBp (f327_length a0 Z) fun v107 =>
    none
  else
    mjBp (f327_length a0 Z) fun v110 =>
    mjBp (f336_indexOf (a0 + 100000) p0 p1 v110 Z) fun v113 =>
    some v113
  else none
theorem f334_indexOf_ok {a0 : Nat} {p0 : Int32} {p1 : Int32} {Z : mjZt} {v9 : Int32} (h : f334_indexOf a0 p0 p1 Z = some v9) : pG 177 0 (mjEnt [.ref a0, .int p0, .int p1] (mjML 177)) [] (mjTo Z) (fun r M1 => r = some (.int v9) ∧ M1 = mjTo Z) := by
  unfold f334_indexOf at h
  show pG 177 0 [some (.ref a0), some (.int p0), some (.int p1)] [] (mjTo Z) _
  refine pG_many 1 (pc1 := 1) (L1 := [some (.ref a0), some (.int p0), some (.int p1)]) (st1 := [.ref a0]) (M1 := mjTo Z) (fun _ _ => rfl) ?_
  have hk101 : mjSid a0 = true := by
    by_cases q9 : mjSid a0 = true
    · exact q9
    · rw [if_neg q9] at h; cases h
  rw [if_pos hk101] at h
  cases hq102 : f330_isLatin1 a0 Z with
  | none => rw [hq102] at h; cases h
  | some v103 =>
    rw [hq102, mjBp_some] at h
    refine pG_callV (k2 := 173) (As := [.ref a0]) (rest := []) rfl rfl rfl rfl rfl (mjRcv_sid hk101 rfl) (by decide) (by decide) (f330_isLatin1_ok hq102) ?_
    rintro r9 M9 ⟨rfl, rfl⟩
    show pG 177 4 [some (.ref a0), some (.int p0), some (.int p1)] [.int v103] (mjTo Z) _
    by_cases hc105 : mjCmp .eq v103 0 = true
    · rw [if_pos hc105] at h
      refine pG_ift (t := 23) rfl rfl hc105 ?_
      refine pG_many 1 (pc1 := 24) (L1 := [some (.ref a0), some (.int p0), some (.int p1)]) (st1 := [.ref a0]) (M1 := mjTo Z) (fun _ _ => rfl) ?_
      refine pG_getX9 rfl rfl hk101 ?_
      refine pG_many 3 (pc1 := 30) (L1 := [some (.ref a0), some (.int p0), some (.int p1)]) (st1 := [.ref a0, .int p1, .int p0, .ref (a0 + 100000)]) (M1 := mjTo Z) (fun _ _ => rfl) ?_
      cases hq106 : f327_length a0 Z with
      | none => rw [hq106] at h; cases h
      | some v107 =>
        rw [hq106, mjBp_some] at h
        refine pG_callV (k2 := 170) (As := [.ref a0]) (rest := [.int p1, .int p0, .ref (a0 + 100000)]) rfl rfl rfl rfl rfl (mjRcv_sid hk101 rfl) (by decide) (by decide) (f327_length_ok hq106) ?_
        rintro r9 M9 ⟨rfl, rfl⟩
        show pG 177 33 [some (.ref a0), some (.int p0), some (.int p1)] [.int v107, .int p1, .int p0, .ref (a0 + 100000)] (mjTo Z) _
        cases h
    · rw [if_neg hc105] at h
      refine pG_iff (t := 23) rfl rfl hc105 ?_
      refine pG_many 1 (pc1 := 8) (L1 := [some (.ref a0), some (.int p0), some (.int p1)]) (st1 := [.ref a0]) (M1 := mjTo Z) (fun _ _ => rfl) ?_
      refine pG_getX9 rfl rfl hk101 ?_
      refine pG_many 3 (pc1 := 14) (L1 := [some (.ref a0), some (.int p0), some (.int p1)]) (st1 := [.ref a0, .int p1, .int p0, .ref (a0 + 100000)]) (M1 := mjTo Z) (fun _ _ => rfl) ?_
      cases hq109 : f327_length a0 Z with
      | none => rw [hq109] at h; cases h
      | some v110 =>
        rw [hq109, mjBp_some] at h
        refine pG_callV (k2 := 170) (As := [.ref a0]) (rest := [.int p1, .int p0, .ref (a0 + 100000)]) rfl rfl rfl rfl rfl (mjRcv_sid hk101 rfl) (by decide) (by decide) (f327_length_ok hq109) ?_
        rintro r9 M9 ⟨rfl, rfl⟩
        show pG 177 17 [some (.ref a0), some (.int p0), some (.int p1)] [.int v110, .int p1, .int p0, .ref (a0 + 100000)] (mjTo Z) _
        cases hq112 : f336_indexOf (a0 + 100000) p0 p1 v110 Z with
        | none => rw [hq112] at h; cases h
        | some v113 =>
          rw [hq112, mjBp_some] at h
          refine pG_call (k2 := 179) (As := [.ref (a0 + 100000), .int p0, .int p1, .int v110]) (rest := []) (fun _ _ => rfl) (by decide) (by decide) (f336_indexOf_ok hq112) ?_
          rintro r9 M9 ⟨rfl, rfl⟩
          show pG 177 20 [some (.ref a0), some (.int p0), some (.int p1)] [.int v113] (mjTo Z) _
          refine pG_many 1 (pc1 := 36) (L1 := [some (.ref a0), some (.int p0), some (.int p1)]) (st1 := [.int v113]) (M1 := mjTo Z) (fun _ _ => rfl) ?_
          simp only [Option.some.injEq] at h
          subst h
          exact pG_ret (r := some (.int v113)) rfl ⟨rfl, rfl⟩
def f335_indexOf (a0 : Nat) (p0 : Int32) (Z : mjZt) : Option Int32 :=
  if mjSid a0 = true then
  mjBp (f334_indexOf a0 p0 0 Z) fun v103 =>
  some v103
  else none
theorem f335_indexOf_ok {a0 : Nat} {p0 : Int32} {Z : mjZt} {v9 : Int32} (h : f335_indexOf a0 p0 Z = some v9) : pG 178 0 (mjEnt [.ref a0, .int p0] (mjML 178)) [] (mjTo Z) (fun r M1 => r = some (.int v9) ∧ M1 = mjTo Z) := by
  unfold f335_indexOf at h
  show pG 178 0 [some (.ref a0), some (.int p0)] [] (mjTo Z) _
  refine pG_many 3 (pc1 := 3) (L1 := [some (.ref a0), some (.int p0)]) (st1 := [.int 0, .int p0, .ref a0]) (M1 := mjTo Z) (fun _ _ => rfl) ?_
  have hk101 : mjSid a0 = true := by
    by_cases q9 : mjSid a0 = true
    · exact q9
    · rw [if_neg q9] at h; cases h
  rw [if_pos hk101] at h
  cases hq102 : f334_indexOf a0 p0 0 Z with
  | none => rw [hq102] at h; cases h
  | some v103 =>
    rw [hq102, mjBp_some] at h
    refine pG_callV (k2 := 177) (As := [.ref a0, .int p0, .int 0]) (rest := []) rfl rfl rfl rfl rfl (mjRcv_sid hk101 rfl) (by decide) (by decide) (f334_indexOf_ok hq102) ?_
    rintro r9 M9 ⟨rfl, rfl⟩
    show pG 178 6 [some (.ref a0), some (.int p0)] [.int v103] (mjTo Z) _
    simp only [Option.some.injEq] at h
    subst h
    exact pG_ret (r := some (.int v103)) rfl ⟨rfl, rfl⟩
def f68_advance_j50  (Z : mjZt) : Option (Unit × mjZt) :=
  mjLet (zSi Z 183 4 (Z.1 183 2)) fun Z102 =>
  if mjCmp .lt (Z102.1 183 2) (Z102.1 183 1) = true then
    mjBp (f63_byteAt (Z102.1 183 2) Z102) fun v105 =>
    mjBp (f64_isLetter v105 Z102) fun v108 =>
    if mjCmp .eq v108 0 = true then
      mjBp (f66_isDigit v105 Z102) fun v112 =>
      if mjCmp .eq v112 0 = true then
        mjBp (f335_indexOf 1000005 ((v105.toUInt32 % 65536).toInt32) Z102) fun v116 =>
        if mjCmp .lt v116 0 = true then
          mjLet (zSi Z102 183 3 3) fun Z119 =>
          mjLet (zSi Z119 183 2 ((Z119.1 183 2) + 1)) fun Z120 =>
          some ((), Z120)
        else
          mjLet (zSi Z102 183 3 v105) fun Z121 =>
          mjLet (zSi Z121 183 2 ((Z121.1 183 2) + 1)) fun Z122 =>
          some ((), Z122)
      else
        mjBd (f67_takeNumber  Z102) fun _ Z125 =>
        some ((), Z125)
    else
      mjBd (f65_takeWord  Z102) fun _ Z128 =>
      some ((), Z128)
  else
    mjLet (zSi Z102 183 3 0) fun Z129 =>
    some ((), Z129)
theorem f68_advance_j50_ok  (d1 : Option Value) (Z : mjZt) (v9 : Unit) (Z9 : mjZt) (h : f68_advance_j50  Z = some (v9, Z9)) : pG 68 50 [some (.ref 183), d1] [] (mjTo Z) (fun r M1 => r = none ∧ M1 = mjTo Z9) := by
  unfold f68_advance_j50 at h
  refine pG_many 2 (pc1 := 52) (L1 := [some (.ref 183), d1]) (st1 := [.ref 183, .ref 183]) (M1 := mjTo Z) (fun _ _ => rfl) ?_
  refine pG_getI (ci := 9) (f := 2) rfl rfl (Or.inl rfl) (by rfl) (by decide) ?_
  refine pG_putI (ci := 9) (f := 4) rfl rfl rfl rfl (by rfl) (by decide) ?_
  rw [mjLet] at h
  generalize zSi Z 183 4 (Z.1 183 2) = Z102 at h ⊢
  refine pG_many 1 (pc1 := 59) (L1 := [some (.ref 183), d1]) (st1 := [.ref 183]) (M1 := mjTo Z102) (fun _ _ => rfl) ?_
  refine pG_getI (ci := 9) (f := 2) rfl rfl (Or.inl rfl) (by rfl) (by decide) ?_
  refine pG_many 1 (pc1 := 63) (L1 := [some (.ref 183), d1]) (st1 := [.ref 183, .int (Z102.1 183 2)]) (M1 := mjTo Z102) (fun _ _ => rfl) ?_
  refine pG_getI (ci := 9) (f := 1) rfl rfl (Or.inl rfl) (by rfl) (by decide) ?_
  by_cases hc103 : mjCmp .lt (Z102.1 183 2) (Z102.1 183 1) = true
  · rw [if_pos hc103] at h
    refine pG_cmt (t := 75) rfl rfl hc103 ?_
    refine pG_many 2 (pc1 := 77) (L1 := [some (.ref 183), d1]) (st1 := [.ref 183, .ref 183]) (M1 := mjTo Z102) (fun _ _ => rfl) ?_
    refine pG_getI (ci := 9) (f := 2) rfl rfl (Or.inl rfl) (by rfl) (by decide) ?_
    cases hq104 : f63_byteAt (Z102.1 183 2) Z102 with
    | none => rw [hq104] at h; cases h
    | some v105 =>
      rw [hq104, mjBp_some] at h
      refine pG_callV (k2 := 63) (As := [.ref 183, .int (Z102.1 183 2)]) (rest := []) rfl rfl rfl rfl rfl (by rfl) (by decide) (by decide) (f63_byteAt_ok hq104) ?_
      rintro r9 M9 ⟨rfl, rfl⟩
      show pG 68 83 [some (.ref 183), d1] [.int v105] (mjTo Z102) _
      refine pG_many 2 (pc1 := 85) (L1 := [some (.ref 183), some (.int v105)]) (st1 := [.int v105]) (M1 := mjTo Z102) (fun _ _ => rfl) ?_
      cases hq107 : f64_isLetter v105 Z102 with
      | none => rw [hq107] at h; cases h
      | some v108 =>
        rw [hq107, mjBp_some] at h
        refine pG_call (k2 := 64) (As := [.int v105]) (rest := []) (fun _ _ => rfl) (by decide) (by decide) (f64_isLetter_ok hq107) ?_
        rintro r9 M9 ⟨rfl, rfl⟩
        show pG 68 88 [some (.ref 183), some (.int v105)] [.int v108] (mjTo Z102) _
        by_cases hc110 : mjCmp .eq v108 0 = true
        · rw [if_pos hc110] at h
          refine pG_ift (t := 98) rfl rfl hc110 ?_
          refine pG_many 1 (pc1 := 99) (L1 := [some (.ref 183), some (.int v105)]) (st1 := [.int v105]) (M1 := mjTo Z102) (fun _ _ => rfl) ?_
          cases hq111 : f66_isDigit v105 Z102 with
          | none => rw [hq111] at h; cases h
          | some v112 =>
            rw [hq111, mjBp_some] at h
            refine pG_call (k2 := 66) (As := [.int v105]) (rest := []) (fun _ _ => rfl) (by decide) (by decide) (f66_isDigit_ok hq111) ?_
            rintro r9 M9 ⟨rfl, rfl⟩
            show pG 68 102 [some (.ref 183), some (.int v105)] [.int v112] (mjTo Z102) _
            by_cases hc114 : mjCmp .eq v112 0 = true
            · rw [if_pos hc114] at h
              refine pG_ift (t := 112) rfl rfl hc114 ?_
              refine pG_many 4 (pc1 := 117) (L1 := [some (.ref 183), some (.int v105)]) (st1 := [.int ((v105.toUInt32 % 65536).toInt32), .ref 1000005, .ref 183]) (M1 := mjTo Z102) (fun _ _ => rfl) ?_
              cases hq115 : f335_indexOf 1000005 ((v105.toUInt32 % 65536).toInt32) Z102 with
              | none => rw [hq115] at h; cases h
              | some v116 =>
                rw [hq115, mjBp_some] at h
                refine pG_callV (k2 := 178) (As := [.ref 1000005, .int ((v105.toUInt32 % 65536).toInt32)]) (rest := [.ref 183]) rfl rfl rfl rfl rfl (by rfl) (by decide) (by decide) (f335_indexOf_ok hq115) ?_
                rintro r9 M9 ⟨rfl, rfl⟩
                show pG 68 120 [some (.ref 183), some (.int v105)] [.int v116, .ref 183] (mjTo Z102) _
                by_cases hc118 : mjCmp .lt v116 0 = true
                · rw [if_pos hc118] at h
                  refine pG_ift (t := 127) rfl rfl hc118 ?_
                  refine pG_many 1 (pc1 := 128) (L1 := [some (.ref 183), some (.int v105)]) (st1 := [.int 3, .ref 183]) (M1 := mjTo Z102) (fun _ _ => rfl) ?_
                  refine pG_putI (ci := 9) (f := 3) rfl rfl rfl rfl (by rfl) (by decide) ?_
                  rw [mjLet] at h
                  generalize zSi Z102 183 3 3 = Z119 at h ⊢
                  refine pG_many 2 (pc1 := 133) (L1 := [some (.ref 183), some (.int v105)]) (st1 := [.ref 183, .ref 183]) (M1 := mjTo Z119) (fun _ _ => rfl) ?_
                  refine pG_getI (ci := 9) (f := 2) rfl rfl (Or.inl rfl) (by rfl) (by decide) ?_
                  refine pG_many 2 (pc1 := 138) (L1 := [some (.ref 183), some (.int v105)]) (st1 := [.int ((Z119.1 183 2) + 1), .ref 183]) (M1 := mjTo Z119) (fun _ _ => rfl) ?_
                  refine pG_putI (ci := 9) (f := 2) rfl rfl rfl rfl (by rfl) (by decide) ?_
                  rw [mjLet] at h
                  generalize zSi Z119 183 2 ((Z119.1 183 2) + 1) = Z120 at h ⊢
                  simp only [Option.some.injEq, Prod.mk.injEq] at h
                  obtain ⟨-, rfl⟩ := h
                  exact pG_ret (r := none) rfl ⟨rfl, rfl⟩
                · rw [if_neg hc118] at h
                  refine pG_iff (t := 127) rfl rfl hc118 ?_
                  refine pG_many 2 (pc1 := 128) (L1 := [some (.ref 183), some (.int v105)]) (st1 := [.int v105, .ref 183]) (M1 := mjTo Z102) (fun _ _ => rfl) ?_
                  refine pG_putI (ci := 9) (f := 3) rfl rfl rfl rfl (by rfl) (by decide) ?_
                  rw [mjLet] at h
                  generalize zSi Z102 183 3 v105 = Z121 at h ⊢
                  refine pG_many 2 (pc1 := 133) (L1 := [some (.ref 183), some (.int v105)]) (st1 := [.ref 183, .ref 183]) (M1 := mjTo Z121) (fun _ _ => rfl) ?_
                  refine pG_getI (ci := 9) (f := 2) rfl rfl (Or.inl rfl) (by rfl) (by decide) ?_
                  refine pG_many 2 (pc1 := 138) (L1 := [some (.ref 183), some (.int v105)]) (st1 := [.int ((Z121.1 183 2) + 1), .ref 183]) (M1 := mjTo Z121) (fun _ _ => rfl) ?_
                  refine pG_putI (ci := 9) (f := 2) rfl rfl rfl rfl (by rfl) (by decide) ?_
                  rw [mjLet] at h
                  generalize zSi Z121 183 2 ((Z121.1 183 2) + 1) = Z122 at h ⊢
                  simp only [Option.some.injEq, Prod.mk.injEq] at h
                  obtain ⟨-, rfl⟩ := h
                  exact pG_ret (r := none) rfl ⟨rfl, rfl⟩
            · rw [if_neg hc114] at h
              refine pG_iff (t := 112) rfl rfl hc114 ?_
              refine pG_many 1 (pc1 := 106) (L1 := [some (.ref 183), some (.int v105)]) (st1 := [.ref 183]) (M1 := mjTo Z102) (fun _ _ => rfl) ?_
              cases hq123 : f67_takeNumber  Z102 with
              | none => rw [hq123] at h; cases h
              | some w =>
                obtain ⟨v124, Z125⟩ := w
                rw [hq123, mjBd_some] at h
                refine pG_callV (k2 := 67) (As := [.ref 183]) (rest := []) rfl rfl rfl rfl rfl (by rfl) (by decide) (by decide) (f67_takeNumber_ok hq123) ?_
                rintro r9 M9 ⟨rfl, rfl⟩
                show pG 68 109 [some (.ref 183), some (.int v105)] [] (mjTo Z125) _
                refine pG_many 1 (pc1 := 141) (L1 := [some (.ref 183), some (.int v105)]) (st1 := []) (M1 := mjTo Z125) (fun _ _ => rfl) ?_
                simp only [Option.some.injEq, Prod.mk.injEq] at h
                obtain ⟨-, rfl⟩ := h
                exact pG_ret (r := none) rfl ⟨rfl, rfl⟩
        · rw [if_neg hc110] at h
          refine pG_iff (t := 98) rfl rfl hc110 ?_
          refine pG_many 1 (pc1 := 92) (L1 := [some (.ref 183), some (.int v105)]) (st1 := [.ref 183]) (M1 := mjTo Z102) (fun _ _ => rfl) ?_
          cases hq126 : f65_takeWord  Z102 with
          | none => rw [hq126] at h; cases h
          | some w =>
            obtain ⟨v127, Z128⟩ := w
            rw [hq126, mjBd_some] at h
            refine pG_callV (k2 := 65) (As := [.ref 183]) (rest := []) rfl rfl rfl rfl rfl (by rfl) (by decide) (by decide) (f65_takeWord_ok hq126) ?_
            rintro r9 M9 ⟨rfl, rfl⟩
            show pG 68 95 [some (.ref 183), some (.int v105)] [] (mjTo Z128) _
            refine pG_many 1 (pc1 := 141) (L1 := [some (.ref 183), some (.int v105)]) (st1 := []) (M1 := mjTo Z128) (fun _ _ => rfl) ?_
            simp only [Option.some.injEq, Prod.mk.injEq] at h
            obtain ⟨-, rfl⟩ := h
            exact pG_ret (r := none) rfl ⟨rfl, rfl⟩
  · rw [if_neg hc103] at h
    refine pG_cmf (t := 75) rfl rfl hc103 ?_
    refine pG_many 2 (pc1 := 71) (L1 := [some (.ref 183), d1]) (st1 := [.int 0, .ref 183]) (M1 := mjTo Z102) (fun _ _ => rfl) ?_
    refine pG_putI (ci := 9) (f := 3) rfl rfl rfl rfl (by rfl) (by decide) ?_
    rw [mjLet] at h
    generalize zSi Z102 183 3 0 = Z129 at h ⊢
    simp only [Option.some.injEq, Prod.mk.injEq] at h
    obtain ⟨-, rfl⟩ := h
    exact pG_ret (r := none) rfl ⟨rfl, rfl⟩
def f68_advance_h0 : Nat → mjZt → Option (Unit × mjZt)
  | 0, _ => none
  | n + 1, Z =>
    if mjCmp .ge (Z.1 183 2) (Z.1 183 1) = true then
      f68_advance_j50  Z
    else
      mjBp (f63_byteAt (Z.1 183 2) Z) fun v131 =>
      if mjCmp .eq v131 32 = true then
        mjLet (zSi Z 183 2 ((Z.1 183 2) + 1)) fun Z134 =>
        f68_advance_h0 n  Z134
      else
        if mjCmp .ne v131 10 = true then
          f68_advance_j50  Z
        else
          mjLet (zSi Z 183 2 ((Z.1 183 2) + 1)) fun Z139 =>
          f68_advance_h0 n  Z139
theorem f68_advance_h0_ok : ∀ (n : Nat)  (d1 : Option Value) (Z : mjZt) (v9 : Unit) (Z9 : mjZt), f68_advance_h0 n  Z = some (v9, Z9) → pG 68 0 [some (.ref 183), d1] [] (mjTo Z) (fun r M1 => r = none ∧ M1 = mjTo Z9)
  | 0, d1, Z, v9, Z9, h => by rw [f68_advance_h0] at h; cases h
  | n + 1, d1, Z, v9, Z9, h => by
      rw [f68_advance_h0] at h
      refine pG_many 1 (pc1 := 1) (L1 := [some (.ref 183), d1]) (st1 := [.ref 183]) (M1 := mjTo Z) (fun _ _ => rfl) ?_
      refine pG_getI (ci := 9) (f := 2) rfl rfl (Or.inl rfl) (by rfl) (by decide) ?_
      refine pG_many 1 (pc1 := 5) (L1 := [some (.ref 183), d1]) (st1 := [.ref 183, .int (Z.1 183 2)]) (M1 := mjTo Z) (fun _ _ => rfl) ?_
      refine pG_getI (ci := 9) (f := 1) rfl rfl (Or.inl rfl) (by rfl) (by decide) ?_
      by_cases hc101 : mjCmp .ge (Z.1 183 2) (Z.1 183 1) = true
      · rw [if_pos hc101] at h
        refine pG_cmt (t := 50) rfl rfl hc101 ?_
        exact f68_advance_j50_ok d1 Z v9 Z9 h
      · rw [if_neg hc101] at h
        refine pG_cmf (t := 50) rfl rfl hc101 ?_
        refine pG_many 2 (pc1 := 13) (L1 := [some (.ref 183), d1]) (st1 := [.ref 183, .ref 183]) (M1 := mjTo Z) (fun _ _ => rfl) ?_
        refine pG_getI (ci := 9) (f := 2) rfl rfl (Or.inl rfl) (by rfl) (by decide) ?_
        cases hq130 : f63_byteAt (Z.1 183 2) Z with
        | none => rw [hq130] at h; cases h
        | some v131 =>
          rw [hq130, mjBp_some] at h
          refine pG_callV (k2 := 63) (As := [.ref 183, .int (Z.1 183 2)]) (rest := []) rfl rfl rfl rfl rfl (by rfl) (by decide) (by decide) (f63_byteAt_ok hq130) ?_
          rintro r9 M9 ⟨rfl, rfl⟩
          show pG 68 19 [some (.ref 183), d1] [.int v131] (mjTo Z) _
          refine pG_many 1 (pc1 := 21) (L1 := [some (.ref 183), d1]) (st1 := [.int 32, .int v131]) (M1 := mjTo Z) (fun _ _ => rfl) ?_
          by_cases hc133 : mjCmp .eq v131 32 = true
          · rw [if_pos hc133] at h
            refine pG_cmt (t := 37) rfl rfl hc133 ?_
            refine pG_many 2 (pc1 := 39) (L1 := [some (.ref 183), d1]) (st1 := [.ref 183, .ref 183]) (M1 := mjTo Z) (fun _ _ => rfl) ?_
            refine pG_getI (ci := 9) (f := 2) rfl rfl (Or.inl rfl) (by rfl) (by decide) ?_
            refine pG_many 2 (pc1 := 44) (L1 := [some (.ref 183), d1]) (st1 := [.int ((Z.1 183 2) + 1), .ref 183]) (M1 := mjTo Z) (fun _ _ => rfl) ?_
            refine pG_putI (ci := 9) (f := 2) rfl rfl rfl rfl (by rfl) (by decide) ?_
            rw [mjLet] at h
            generalize zSi Z 183 2 ((Z.1 183 2) + 1) = Z134 at h ⊢
            refine pG_many 1 (pc1 := 0) (L1 := [some (.ref 183), d1]) (st1 := []) (M1 := mjTo Z134) (fun _ _ => rfl) ?_
            exact f68_advance_h0_ok n d1 Z134 v9 Z9 h
          · rw [if_neg hc133] at h
            refine pG_cmf (t := 37) rfl rfl hc133 ?_
            refine pG_many 2 (pc1 := 26) (L1 := [some (.ref 183), d1]) (st1 := [.ref 183, .ref 183]) (M1 := mjTo Z) (fun _ _ => rfl) ?_
            refine pG_getI (ci := 9) (f := 2) rfl rfl (Or.inl rfl) (by rfl) (by decide) ?_
            refine pG_callV (k2 := 63) (As := [.ref 183, .int (Z.1 183 2)]) (rest := []) rfl rfl rfl rfl rfl (by rfl) (by decide) (by decide) (f63_byteAt_ok hq130) ?_
            rintro r9 M9 ⟨rfl, rfl⟩
            show pG 68 32 [some (.ref 183), d1] [.int v131] (mjTo Z) _
            refine pG_many 1 (pc1 := 34) (L1 := [some (.ref 183), d1]) (st1 := [.int 10, .int v131]) (M1 := mjTo Z) (fun _ _ => rfl) ?_
            by_cases hc138 : mjCmp .ne v131 10 = true
            · rw [if_pos hc138] at h
              refine pG_cmt (t := 50) rfl rfl hc138 ?_
              exact f68_advance_j50_ok d1 Z v9 Z9 h
            · rw [if_neg hc138] at h
              refine pG_cmf (t := 50) rfl rfl hc138 ?_
              refine pG_many 2 (pc1 := 39) (L1 := [some (.ref 183), d1]) (st1 := [.ref 183, .ref 183]) (M1 := mjTo Z) (fun _ _ => rfl) ?_
              refine pG_getI (ci := 9) (f := 2) rfl rfl (Or.inl rfl) (by rfl) (by decide) ?_
              refine pG_many 2 (pc1 := 44) (L1 := [some (.ref 183), d1]) (st1 := [.int ((Z.1 183 2) + 1), .ref 183]) (M1 := mjTo Z) (fun _ _ => rfl) ?_
              refine pG_putI (ci := 9) (f := 2) rfl rfl rfl rfl (by rfl) (by decide) ?_
              rw [mjLet] at h
              generalize zSi Z 183 2 ((Z.1 183 2) + 1) = Z139 at h ⊢
              refine pG_many 1 (pc1 := 0) (L1 := [some (.ref 183), d1]) (st1 := []) (M1 := mjTo Z139) (fun _ _ => rfl) ?_
              exact f68_advance_h0_ok n d1 Z139 v9 Z9 h
def f68_advance  (Z : mjZt) : Option (Unit × mjZt) :=
  f68_advance_h0 mjF  Z
theorem f68_advance_ok  {Z : mjZt} {v9 : Unit} {Z9 : mjZt} (h : f68_advance  Z = some (v9, Z9)) : pG 68 0 (mjEnt [.ref 183] (mjML 68)) [] (mjTo Z) (fun r M1 => r = none ∧ M1 = mjTo Z9) := by
  unfold f68_advance at h
  show pG 68 0 [some (.ref 183), none] [] (mjTo Z) _
  exact f68_advance_h0_ok mjF none Z v9 Z9 h
def f69_read_j177 (R : Nat → Int32 → mjZt → Option (Int32 × mjZt)) (x2 : Nat) (x4 : Int32) (s1 : Nat) (s2 : Int32) (Z : mjZt) : Option (Int32 × mjZt) :=
  mjBd (f56_openOne s1 s2 Z) fun v123 Z124 =>
  if mjCmp .eq v123 0 = true then
    mjBd (f68_advance  Z124) fun _ Z128 =>
    R x2 (x4 + 1) Z128
  else
    some (v123, Z124)
theorem f69_read_j177_ok (R : Nat → Int32 → mjZt → Option (Int32 × mjZt)) (hR : ∀ (x2 : Nat) (x4 : Int32) (d3 d5 : Option Value) (Z : mjZt) (v9 : Int32) (Z9 : mjZt), R x2 x4 Z = some (v9, Z9) → pG 69 23 [some (.ref 185), some (.ref 183), some (.ref x2), d3, some (.int x4), d5] [] (mjTo Z) (fun r M1 => r = some (.int v9) ∧ M1 = mjTo Z9)) (x2 : Nat) (x4 : Int32) (s1 : Nat) (s2 : Int32) (d3 d5 : Option Value) (Z : mjZt) (v9 : Int32) (Z9 : mjZt) (h : f69_read_j177 R x2 x4 s1 s2 Z = some (v9, Z9)) : pG 69 177 [some (.ref 185), some (.ref 183), some (.ref x2), d3, some (.int x4), d5] [.int s2, .ref s1, .ref 185] (mjTo Z) (fun r M1 => r = some (.int v9) ∧ M1 = mjTo Z9) := by
  unfold f69_read_j177 at h
  cases hq122 : f56_openOne s1 s2 Z with
  | none => rw [hq122] at h; cases h
  | some w =>
    obtain ⟨v123, Z124⟩ := w
    rw [hq122, mjBd_some] at h
    refine pG_callV (k2 := 56) (As := [.ref 185, .ref s1, .int s2]) (rest := []) rfl rfl rfl rfl rfl (by rfl) (by decide) (by decide) (f56_openOne_ok hq122) ?_
    rintro r9 M9 ⟨rfl, rfl⟩
    show pG 69 180 [some (.ref 185), some (.ref 183), some (.ref x2), d3, some (.int x4), d5] [.int v123] (mjTo Z124) _
    refine pG_many 3 (pc1 := 217) (L1 := [some (.ref 185), some (.ref 183), some (.ref x2), d3, some (.int x4), some (.int v123)]) (st1 := [.int v123]) (M1 := mjTo Z124) (fun _ _ => rfl) ?_
    by_cases hc125 : mjCmp .eq v123 0 = true
    · rw [if_pos hc125] at h
      refine pG_ift (t := 223) rfl rfl hc125 ?_
      refine pG_many 1 (pc1 := 224) (L1 := [some (.ref 185), some (.ref 183), some (.ref x2), d3, some (.int x4), some (.int v123)]) (st1 := [.ref 183]) (M1 := mjTo Z124) (fun _ _ => rfl) ?_
      cases hq126 : f68_advance  Z124 with
      | none => rw [hq126] at h; cases h
      | some w =>
        obtain ⟨v127, Z128⟩ := w
        rw [hq126, mjBd_some] at h
        refine pG_callV (k2 := 68) (As := [.ref 183]) (rest := []) rfl rfl rfl rfl rfl (by rfl) (by decide) (by decide) (f68_advance_ok hq126) ?_
        rintro r9 M9 ⟨rfl, rfl⟩
        show pG 69 227 [some (.ref 185), some (.ref 183), some (.ref x2), d3, some (.int x4), some (.int v123)] [] (mjTo Z128) _
        refine pG_many 2 (pc1 := 23) (L1 := [some (.ref 185), some (.ref 183), some (.ref x2), (mjK1 d3), some (.int (x4 + 1)), some (.int v123)]) (st1 := []) (M1 := mjTo Z128) (fun _ _ => rfl) ?_
        exact hR x2 (x4 + 1) ((mjK1 d3)) (some (.int v123)) Z128 v9 Z9 h
    · rw [if_neg hc125] at h
      refine pG_iff (t := 223) rfl rfl hc125 ?_
      refine pG_many 1 (pc1 := 222) (L1 := [some (.ref 185), some (.ref 183), some (.ref x2), d3, some (.int x4), some (.int v123)]) (st1 := [.int v123]) (M1 := mjTo Z124) (fun _ _ => rfl) ?_
      simp only [Option.some.injEq, Prod.mk.injEq] at h
      obtain ⟨rfl, rfl⟩ := h
      exact pG_ret (r := some (.int v123)) rfl ⟨rfl, rfl⟩
def f69_read_j128 (R : Nat → Int32 → mjZt → Option (Int32 × mjZt)) (x2 : Nat) (x4 : Int32) (Z : mjZt) : Option (Int32 × mjZt) :=
  if (Z.1 185 0).toInt < 0 ∨ 2 < (Z.1 185 0).toInt then
    mjBd (f62_goOnWithTruth x2 Z) fun v114 Z115 =>
    if mjCmp .eq v114 0 = true then
      mjBd (f68_advance  Z115) fun _ Z119 =>
      R x2 (x4 + 1) Z119
    else
      some (v114, Z115)
  else if ((Z.1 185 0).toInt - 0).toNat = 0 then
    if mjCmp .ne (Z.1 183 3) 40 = true then
      f69_read_j177 R x2 x4 x2 6 Z
    else
      f69_read_j177 R x2 x4 x2 2 Z
  else if ((Z.1 185 0).toInt - 0).toNat = 1 then
    mjBd (f57_startNumber x2 Z) fun v131 Z132 =>
    if mjCmp .eq v131 0 = true then
      mjBd (f68_advance  Z132) fun _ Z136 =>
      R x2 (x4 + 1) Z136
    else
      some (v131, Z132)
  else if ((Z.1 185 0).toInt - 0).toNat = 2 then
    mjBd (f61_goOnWithNumber x2 Z) fun v139 Z140 =>
    if mjCmp .eq v139 0 = true then
      mjBd (f68_advance  Z140) fun _ Z144 =>
      R x2 (x4 + 1) Z144
    else
      some (v139, Z140)
  else none
theorem f69_read_j128_ok (R : Nat → Int32 → mjZt → Option (Int32 × mjZt)) (hR : ∀ (x2 : Nat) (x4 : Int32) (d3 d5 : Option Value) (Z : mjZt) (v9 : Int32) (Z9 : mjZt), R x2 x4 Z = some (v9, Z9) → pG 69 23 [some (.ref 185), some (.ref 183), some (.ref x2), d3, some (.int x4), d5] [] (mjTo Z) (fun r M1 => r = some (.int v9) ∧ M1 = mjTo Z9)) (x2 : Nat) (x4 : Int32) (d3 d5 : Option Value) (Z : mjZt) (v9 : Int32) (Z9 : mjZt) (h : f69_read_j128 R x2 x4 Z = some (v9, Z9)) : pG 69 128 [some (.ref 185), some (.ref 183), some (.ref x2), d3, some (.int x4), d5] [] (mjTo Z) (fun r M1 => r = some (.int v9) ∧ M1 = mjTo Z9) := by
  unfold f69_read_j128 at h
  refine pG_many 1 (pc1 := 129) (L1 := [some (.ref 185), some (.ref 183), some (.ref x2), d3, some (.int x4), d5]) (st1 := [.ref 185]) (M1 := mjTo Z) (fun _ _ => rfl) ?_
  refine pG_getI (ci := 3) (f := 0) rfl rfl (Or.inl rfl) (by rfl) (by decide) ?_
  by_cases hs112 : (Z.1 185 0).toInt < 0 ∨ 2 < (Z.1 185 0).toInt
  · rw [if_pos hs112] at h
    refine pG_tso (t := 207) rfl hs112 rfl ?_
    refine pG_many 3 (pc1 := 210) (L1 := [some (.ref 185), some (.ref 183), some (.ref x2), d3, some (.int x4), d5]) (st1 := [.ref x2, .ref 183, .ref 185]) (M1 := mjTo Z) (fun _ _ => rfl) ?_
    cases hq113 : f62_goOnWithTruth x2 Z with
    | none => rw [hq113] at h; cases h
    | some w =>
      obtain ⟨v114, Z115⟩ := w
      rw [hq113, mjBd_some] at h
      refine pG_callV (k2 := 62) (As := [.ref 185, .ref 183, .ref x2]) (rest := []) rfl rfl rfl rfl rfl (by rfl) (by decide) (by decide) (f62_goOnWithTruth_ok hq113) ?_
      rintro r9 M9 ⟨rfl, rfl⟩
      show pG 69 213 [some (.ref 185), some (.ref 183), some (.ref x2), d3, some (.int x4), d5] [.int v114] (mjTo Z115) _
      refine pG_many 2 (pc1 := 217) (L1 := [some (.ref 185), some (.ref 183), some (.ref x2), d3, some (.int x4), some (.int v114)]) (st1 := [.int v114]) (M1 := mjTo Z115) (fun _ _ => rfl) ?_
      by_cases hc116 : mjCmp .eq v114 0 = true
      · rw [if_pos hc116] at h
        refine pG_ift (t := 223) rfl rfl hc116 ?_
        refine pG_many 1 (pc1 := 224) (L1 := [some (.ref 185), some (.ref 183), some (.ref x2), d3, some (.int x4), some (.int v114)]) (st1 := [.ref 183]) (M1 := mjTo Z115) (fun _ _ => rfl) ?_
        cases hq117 : f68_advance  Z115 with
        | none => rw [hq117] at h; cases h
        | some w =>
          obtain ⟨v118, Z119⟩ := w
          rw [hq117, mjBd_some] at h
          refine pG_callV (k2 := 68) (As := [.ref 183]) (rest := []) rfl rfl rfl rfl rfl (by rfl) (by decide) (by decide) (f68_advance_ok hq117) ?_
          rintro r9 M9 ⟨rfl, rfl⟩
          show pG 69 227 [some (.ref 185), some (.ref 183), some (.ref x2), d3, some (.int x4), some (.int v114)] [] (mjTo Z119) _
          refine pG_many 2 (pc1 := 23) (L1 := [some (.ref 185), some (.ref 183), some (.ref x2), (mjK1 d3), some (.int (x4 + 1)), some (.int v114)]) (st1 := []) (M1 := mjTo Z119) (fun _ _ => rfl) ?_
          exact hR x2 (x4 + 1) ((mjK1 d3)) (some (.int v114)) Z119 v9 Z9 h
      · rw [if_neg hc116] at h
        refine pG_iff (t := 223) rfl rfl hc116 ?_
        refine pG_many 1 (pc1 := 222) (L1 := [some (.ref 185), some (.ref 183), some (.ref x2), d3, some (.int x4), some (.int v114)]) (st1 := [.int v114]) (M1 := mjTo Z115) (fun _ _ => rfl) ?_
        simp only [Option.some.injEq, Prod.mk.injEq] at h
        obtain ⟨rfl, rfl⟩ := h
        exact pG_ret (r := some (.int v114)) rfl ⟨rfl, rfl⟩
  rw [if_neg hs112] at h
  by_cases hs120 : ((Z.1 185 0).toInt - 0).toNat = 0
  · rw [if_pos hs120] at h
    refine pG_tsi (t := 160) (j := 0) (o := 28) rfl hs112 hs120 rfl rfl ?_
    refine pG_many 3 (pc1 := 163) (L1 := [some (.ref 185), some (.ref 183), some (.ref x2), d3, some (.int x4), d5]) (st1 := [.ref 183, .ref x2, .ref 185]) (M1 := mjTo Z) (fun _ _ => rfl) ?_
    refine pG_getI (ci := 9) (f := 3) rfl rfl (Or.inl rfl) (by rfl) (by decide) ?_
    refine pG_many 1 (pc1 := 168) (L1 := [some (.ref 185), some (.ref 183), some (.ref x2), d3, some (.int x4), d5]) (st1 := [.int 40, .int (Z.1 183 3), .ref x2, .ref 185]) (M1 := mjTo Z) (fun _ _ => rfl) ?_
    by_cases hc121 : mjCmp .ne (Z.1 183 3) 40 = true
    · rw [if_pos hc121] at h
      refine pG_cmt (t := 175) rfl rfl hc121 ?_
      refine pG_many 1 (pc1 := 177) (L1 := [some (.ref 185), some (.ref 183), some (.ref x2), d3, some (.int x4), d5]) (st1 := [.int 6, .ref x2, .ref 185]) (M1 := mjTo Z) (fun _ _ => rfl) ?_
      exact f69_read_j177_ok R hR x2 x4 x2 6 d3 d5 Z v9 Z9 h
    · rw [if_neg hc121] at h
      refine pG_cmf (t := 175) rfl rfl hc121 ?_
      refine pG_many 2 (pc1 := 177) (L1 := [some (.ref 185), some (.ref 183), some (.ref x2), d3, some (.int x4), d5]) (st1 := [.int 2, .ref x2, .ref 185]) (M1 := mjTo Z) (fun _ _ => rfl) ?_
      exact f69_read_j177_ok R hR x2 x4 x2 2 d3 d5 Z v9 Z9 h
  rw [if_neg hs120] at h
  by_cases hs129 : ((Z.1 185 0).toInt - 0).toNat = 1
  · rw [if_pos hs129] at h
    refine pG_tsi (t := 185) (j := 1) (o := 53) rfl hs112 hs129 rfl rfl ?_
    refine pG_many 3 (pc1 := 188) (L1 := [some (.ref 185), some (.ref 183), some (.ref x2), d3, some (.int x4), d5]) (st1 := [.ref x2, .ref 183, .ref 185]) (M1 := mjTo Z) (fun _ _ => rfl) ?_
    cases hq130 : f57_startNumber x2 Z with
    | none => rw [hq130] at h; cases h
    | some w =>
      obtain ⟨v131, Z132⟩ := w
      rw [hq130, mjBd_some] at h
      refine pG_callV (k2 := 57) (As := [.ref 185, .ref 183, .ref x2]) (rest := []) rfl rfl rfl rfl rfl (by rfl) (by decide) (by decide) (f57_startNumber_ok hq130) ?_
      rintro r9 M9 ⟨rfl, rfl⟩
      show pG 69 191 [some (.ref 185), some (.ref 183), some (.ref x2), d3, some (.int x4), d5] [.int v131] (mjTo Z132) _
      refine pG_many 3 (pc1 := 217) (L1 := [some (.ref 185), some (.ref 183), some (.ref x2), d3, some (.int x4), some (.int v131)]) (st1 := [.int v131]) (M1 := mjTo Z132) (fun _ _ => rfl) ?_
      by_cases hc133 : mjCmp .eq v131 0 = true
      · rw [if_pos hc133] at h
        refine pG_ift (t := 223) rfl rfl hc133 ?_
        refine pG_many 1 (pc1 := 224) (L1 := [some (.ref 185), some (.ref 183), some (.ref x2), d3, some (.int x4), some (.int v131)]) (st1 := [.ref 183]) (M1 := mjTo Z132) (fun _ _ => rfl) ?_
        cases hq134 : f68_advance  Z132 with
        | none => rw [hq134] at h; cases h
        | some w =>
          obtain ⟨v135, Z136⟩ := w
          rw [hq134, mjBd_some] at h
          refine pG_callV (k2 := 68) (As := [.ref 183]) (rest := []) rfl rfl rfl rfl rfl (by rfl) (by decide) (by decide) (f68_advance_ok hq134) ?_
          rintro r9 M9 ⟨rfl, rfl⟩
          show pG 69 227 [some (.ref 185), some (.ref 183), some (.ref x2), d3, some (.int x4), some (.int v131)] [] (mjTo Z136) _
          refine pG_many 2 (pc1 := 23) (L1 := [some (.ref 185), some (.ref 183), some (.ref x2), (mjK1 d3), some (.int (x4 + 1)), some (.int v131)]) (st1 := []) (M1 := mjTo Z136) (fun _ _ => rfl) ?_
          exact hR x2 (x4 + 1) ((mjK1 d3)) (some (.int v131)) Z136 v9 Z9 h
      · rw [if_neg hc133] at h
        refine pG_iff (t := 223) rfl rfl hc133 ?_
        refine pG_many 1 (pc1 := 222) (L1 := [some (.ref 185), some (.ref 183), some (.ref x2), d3, some (.int x4), some (.int v131)]) (st1 := [.int v131]) (M1 := mjTo Z132) (fun _ _ => rfl) ?_
        simp only [Option.some.injEq, Prod.mk.injEq] at h
        obtain ⟨rfl, rfl⟩ := h
        exact pG_ret (r := some (.int v131)) rfl ⟨rfl, rfl⟩
  rw [if_neg hs129] at h
  by_cases hs137 : ((Z.1 185 0).toInt - 0).toNat = 2
  · rw [if_pos hs137] at h
    refine pG_tsi (t := 196) (j := 2) (o := 64) rfl hs112 hs137 rfl rfl ?_
    refine pG_many 3 (pc1 := 199) (L1 := [some (.ref 185), some (.ref 183), some (.ref x2), d3, some (.int x4), d5]) (st1 := [.ref x2, .ref 183, .ref 185]) (M1 := mjTo Z) (fun _ _ => rfl) ?_
    cases hq138 : f61_goOnWithNumber x2 Z with
    | none => rw [hq138] at h; cases h
    | some w =>
      obtain ⟨v139, Z140⟩ := w
      rw [hq138, mjBd_some] at h
      refine pG_callV (k2 := 61) (As := [.ref 185, .ref 183, .ref x2]) (rest := []) rfl rfl rfl rfl rfl (by rfl) (by decide) (by decide) (f61_goOnWithNumber_ok hq138) ?_
      rintro r9 M9 ⟨rfl, rfl⟩
      show pG 69 202 [some (.ref 185), some (.ref 183), some (.ref x2), d3, some (.int x4), d5] [.int v139] (mjTo Z140) _
      refine pG_many 3 (pc1 := 217) (L1 := [some (.ref 185), some (.ref 183), some (.ref x2), d3, some (.int x4), some (.int v139)]) (st1 := [.int v139]) (M1 := mjTo Z140) (fun _ _ => rfl) ?_
      by_cases hc141 : mjCmp .eq v139 0 = true
      · rw [if_pos hc141] at h
        refine pG_ift (t := 223) rfl rfl hc141 ?_
        refine pG_many 1 (pc1 := 224) (L1 := [some (.ref 185), some (.ref 183), some (.ref x2), d3, some (.int x4), some (.int v139)]) (st1 := [.ref 183]) (M1 := mjTo Z140) (fun _ _ => rfl) ?_
        cases hq142 : f68_advance  Z140 with
        | none => rw [hq142] at h; cases h
        | some w =>
          obtain ⟨v143, Z144⟩ := w
          rw [hq142, mjBd_some] at h
          refine pG_callV (k2 := 68) (As := [.ref 183]) (rest := []) rfl rfl rfl rfl rfl (by rfl) (by decide) (by decide) (f68_advance_ok hq142) ?_
          rintro r9 M9 ⟨rfl, rfl⟩
          show pG 69 227 [some (.ref 185), some (.ref 183), some (.ref x2), d3, some (.int x4), some (.int v139)] [] (mjTo Z144) _
          refine pG_many 2 (pc1 := 23) (L1 := [some (.ref 185), some (.ref 183), some (.ref x2), (mjK1 d3), some (.int (x4 + 1)), some (.int v139)]) (st1 := []) (M1 := mjTo Z144) (fun _ _ => rfl) ?_
          exact hR x2 (x4 + 1) ((mjK1 d3)) (some (.int v139)) Z144 v9 Z9 h
      · rw [if_neg hc141] at h
        refine pG_iff (t := 223) rfl rfl hc141 ?_
        refine pG_many 1 (pc1 := 222) (L1 := [some (.ref 185), some (.ref 183), some (.ref x2), d3, some (.int x4), some (.int v139)]) (st1 := [.int v139]) (M1 := mjTo Z140) (fun _ _ => rfl) ?_
        simp only [Option.some.injEq, Prod.mk.injEq] at h
        obtain ⟨rfl, rfl⟩ := h
        exact pG_ret (r := some (.int v139)) rfl ⟨rfl, rfl⟩
  rw [if_neg hs137] at h
  cases h
def f69_read_j98 (R : Nat → Int32 → mjZt → Option (Int32 × mjZt)) (x2 : Nat) (x4 : Int32) (Z : mjZt) : Option (Int32 × mjZt) :=
  if mjCmp .ne (Z.1 185 0) 0 = true then
    f69_read_j128 R x2 x4 Z
  else
    mjBp (f54_comparisonStarts  Z) fun v146 =>
    if mjCmp .eq v146 0 = true then
      f69_read_j128 R x2 x4 Z
    else
      mjLet (zSi Z 185 3 0) fun Z149 =>
      mjLet (zSi Z149 185 2 0) fun Z150 =>
      mjLet (zSi Z150 185 0 1) fun Z151 =>
      f69_read_j128 R x2 x4 Z151
theorem f69_read_j98_ok (R : Nat → Int32 → mjZt → Option (Int32 × mjZt)) (hR : ∀ (x2 : Nat) (x4 : Int32) (d3 d5 : Option Value) (Z : mjZt) (v9 : Int32) (Z9 : mjZt), R x2 x4 Z = some (v9, Z9) → pG 69 23 [some (.ref 185), some (.ref 183), some (.ref x2), d3, some (.int x4), d5] [] (mjTo Z) (fun r M1 => r = some (.int v9) ∧ M1 = mjTo Z9)) (x2 : Nat) (x4 : Int32) (d3 d5 : Option Value) (Z : mjZt) (v9 : Int32) (Z9 : mjZt) (h : f69_read_j98 R x2 x4 Z = some (v9, Z9)) : pG 69 98 [some (.ref 185), some (.ref 183), some (.ref x2), d3, some (.int x4), d5] [] (mjTo Z) (fun r M1 => r = some (.int v9) ∧ M1 = mjTo Z9) := by
  unfold f69_read_j98 at h
  refine pG_many 1 (pc1 := 99) (L1 := [some (.ref 185), some (.ref 183), some (.ref x2), d3, some (.int x4), d5]) (st1 := [.ref 185]) (M1 := mjTo Z) (fun _ _ => rfl) ?_
  refine pG_getI (ci := 3) (f := 0) rfl rfl (Or.inl rfl) (by rfl) (by decide) ?_
  by_cases hc111 : mjCmp .ne (Z.1 185 0) 0 = true
  · rw [if_pos hc111] at h
    refine pG_ift (t := 128) rfl rfl hc111 ?_
    exact f69_read_j128_ok R hR x2 x4 d3 d5 Z v9 Z9 h
  · rw [if_neg hc111] at h
    refine pG_iff (t := 128) rfl rfl hc111 ?_
    refine pG_many 2 (pc1 := 107) (L1 := [some (.ref 185), some (.ref 183), some (.ref x2), d3, some (.int x4), d5]) (st1 := [.ref 183, .ref 185]) (M1 := mjTo Z) (fun _ _ => rfl) ?_
    cases hq145 : f54_comparisonStarts  Z with
    | none => rw [hq145] at h; cases h
    | some v146 =>
      rw [hq145, mjBp_some] at h
      refine pG_callV (k2 := 54) (As := [.ref 185, .ref 183]) (rest := []) rfl rfl rfl rfl rfl (by rfl) (by decide) (by decide) (f54_comparisonStarts_ok hq145) ?_
      rintro r9 M9 ⟨rfl, rfl⟩
      show pG 69 110 [some (.ref 185), some (.ref 183), some (.ref x2), d3, some (.int x4), d5] [.int v146] (mjTo Z) _
      by_cases hc148 : mjCmp .eq v146 0 = true
      · rw [if_pos hc148] at h
        refine pG_ift (t := 128) rfl rfl hc148 ?_
        exact f69_read_j128_ok R hR x2 x4 d3 d5 Z v9 Z9 h
      · rw [if_neg hc148] at h
        refine pG_iff (t := 128) rfl rfl hc148 ?_
        refine pG_many 2 (pc1 := 115) (L1 := [some (.ref 185), some (.ref 183), some (.ref x2), d3, some (.int x4), d5]) (st1 := [.int 0, .ref 185]) (M1 := mjTo Z) (fun _ _ => rfl) ?_
        refine pG_putZ (ci := 3) (f := 3) rfl rfl rfl rfl (by rfl) (by decide) (Or.inl rfl) ?_
        rw [mjLet] at h
        generalize zSi Z 185 3 0 = Z149 at h ⊢
        refine pG_many 2 (pc1 := 120) (L1 := [some (.ref 185), some (.ref 183), some (.ref x2), d3, some (.int x4), d5]) (st1 := [.int 0, .ref 185]) (M1 := mjTo Z149) (fun _ _ => rfl) ?_
        refine pG_putI (ci := 3) (f := 2) rfl rfl rfl rfl (by rfl) (by decide) ?_
        rw [mjLet] at h
        generalize zSi Z149 185 2 0 = Z150 at h ⊢
        refine pG_many 2 (pc1 := 125) (L1 := [some (.ref 185), some (.ref 183), some (.ref x2), d3, some (.int x4), d5]) (st1 := [.int 1, .ref 185]) (M1 := mjTo Z150) (fun _ _ => rfl) ?_
        refine pG_putI (ci := 3) (f := 0) rfl rfl rfl rfl (by rfl) (by decide) ?_
        rw [mjLet] at h
        generalize zSi Z150 185 0 1 = Z151 at h ⊢
        exact f69_read_j128_ok R hR x2 x4 d3 d5 Z151 v9 Z9 h
def f69_read_j59 (R : Nat → Int32 → mjZt → Option (Int32 × mjZt)) (x2 : Nat) (x4 : Int32) (Z : mjZt) : Option (Int32 × mjZt) :=
  if mjCmp .ne (Z.1 185 0) 3 = true then
    f69_read_j98 R x2 x4 Z
  else
    mjBp (f52_truthEnds  Z) fun v153 =>
    if mjCmp .eq v153 0 = true then
      f69_read_j98 R x2 x4 Z
    else
      mjBd (f49_reduce x2 4 Z) fun _ Z158 =>
      if mjIs x2 211 8 = true then
      mjBd (f53_finish x2 Z158) fun _ Z162 =>
      if mjCmp .ne (Z162.1 185 1) 0 = true then
        some (2, Z162)
      else
        some (0, Z162)
      else none
theorem f69_read_j59_ok (R : Nat → Int32 → mjZt → Option (Int32 × mjZt)) (hR : ∀ (x2 : Nat) (x4 : Int32) (d3 d5 : Option Value) (Z : mjZt) (v9 : Int32) (Z9 : mjZt), R x2 x4 Z = some (v9, Z9) → pG 69 23 [some (.ref 185), some (.ref 183), some (.ref x2), d3, some (.int x4), d5] [] (mjTo Z) (fun r M1 => r = some (.int v9) ∧ M1 = mjTo Z9)) (x2 : Nat) (x4 : Int32) (d3 d5 : Option Value) (Z : mjZt) (v9 : Int32) (Z9 : mjZt) (h : f69_read_j59 R x2 x4 Z = some (v9, Z9)) : pG 69 59 [some (.ref 185), some (.ref 183), some (.ref x2), d3, some (.int x4), d5] [] (mjTo Z) (fun r M1 => r = some (.int v9) ∧ M1 = mjTo Z9) := by
  unfold f69_read_j59 at h
  refine pG_many 1 (pc1 := 60) (L1 := [some (.ref 185), some (.ref 183), some (.ref x2), d3, some (.int x4), d5]) (st1 := [.ref 185]) (M1 := mjTo Z) (fun _ _ => rfl) ?_
  refine pG_getI (ci := 3) (f := 0) rfl rfl (Or.inl rfl) (by rfl) (by decide) ?_
  refine pG_many 1 (pc1 := 64) (L1 := [some (.ref 185), some (.ref 183), some (.ref x2), d3, some (.int x4), d5]) (st1 := [.int 3, .int (Z.1 185 0)]) (M1 := mjTo Z) (fun _ _ => rfl) ?_
  by_cases hc110 : mjCmp .ne (Z.1 185 0) 3 = true
  · rw [if_pos hc110] at h
    refine pG_cmt (t := 98) rfl rfl hc110 ?_
    exact f69_read_j98_ok R hR x2 x4 d3 d5 Z v9 Z9 h
  · rw [if_neg hc110] at h
    refine pG_cmf (t := 98) rfl rfl hc110 ?_
    refine pG_many 2 (pc1 := 69) (L1 := [some (.ref 185), some (.ref 183), some (.ref x2), d3, some (.int x4), d5]) (st1 := [.ref 183, .ref 185]) (M1 := mjTo Z) (fun _ _ => rfl) ?_
    cases hq152 : f52_truthEnds  Z with
    | none => rw [hq152] at h; cases h
    | some v153 =>
      rw [hq152, mjBp_some] at h
      refine pG_callV (k2 := 52) (As := [.ref 185, .ref 183]) (rest := []) rfl rfl rfl rfl rfl (by rfl) (by decide) (by decide) (f52_truthEnds_ok hq152) ?_
      rintro r9 M9 ⟨rfl, rfl⟩
      show pG 69 72 [some (.ref 185), some (.ref 183), some (.ref x2), d3, some (.int x4), d5] [.int v153] (mjTo Z) _
      by_cases hc155 : mjCmp .eq v153 0 = true
      · rw [if_pos hc155] at h
        refine pG_ift (t := 98) rfl rfl hc155 ?_
        exact f69_read_j98_ok R hR x2 x4 d3 d5 Z v9 Z9 h
      · rw [if_neg hc155] at h
        refine pG_iff (t := 98) rfl rfl hc155 ?_
        refine pG_many 3 (pc1 := 78) (L1 := [some (.ref 185), some (.ref 183), some (.ref x2), d3, some (.int x4), d5]) (st1 := [.int 4, .ref x2, .ref 185]) (M1 := mjTo Z) (fun _ _ => rfl) ?_
        cases hq156 : f49_reduce x2 4 Z with
        | none => rw [hq156] at h; cases h
        | some w =>
          obtain ⟨v157, Z158⟩ := w
          rw [hq156, mjBd_some] at h
          refine pG_callV (k2 := 49) (As := [.ref 185, .ref x2, .int 4]) (rest := []) rfl rfl rfl rfl rfl (by rfl) (by decide) (by decide) (f49_reduce_ok hq156) ?_
          rintro r9 M9 ⟨rfl, rfl⟩
          show pG 69 81 [some (.ref 185), some (.ref 183), some (.ref x2), d3, some (.int x4), d5] [] (mjTo Z158) _
          refine pG_many 1 (pc1 := 82) (L1 := [some (.ref 185), some (.ref 183), some (.ref x2), d3, some (.int x4), d5]) (st1 := [.ref x2]) (M1 := mjTo Z158) (fun _ _ => rfl) ?_
          have hk159 : mjIs x2 211 8 = true := by
            by_cases q9 : mjIs x2 211 8 = true
            · exact q9
            · rw [if_neg q9] at h; cases h
          rw [if_pos hk159] at h
          cases hq160 : f53_finish x2 Z158 with
          | none => rw [hq160] at h; cases h
          | some w =>
            obtain ⟨v161, Z162⟩ := w
            rw [hq160, mjBd_some] at h
            refine pG_callV (k2 := 53) (As := [.ref x2]) (rest := []) rfl rfl rfl rfl rfl (mjRcv_is hk159 (by decide)) (by decide) (by decide) (f53_finish_ok hq160) ?_
            rintro r9 M9 ⟨rfl, rfl⟩
            show pG 69 85 [some (.ref 185), some (.ref 183), some (.ref x2), d3, some (.int x4), d5] [] (mjTo Z162) _
            refine pG_many 1 (pc1 := 86) (L1 := [some (.ref 185), some (.ref 183), some (.ref x2), d3, some (.int x4), d5]) (st1 := [.ref 185]) (M1 := mjTo Z162) (fun _ _ => rfl) ?_
            refine pG_getI (ci := 3) (f := 1) rfl rfl (Or.inl rfl) (by rfl) (by decide) ?_
            by_cases hc163 : mjCmp .ne (Z162.1 185 1) 0 = true
            · rw [if_pos hc163] at h
              refine pG_ift (t := 96) rfl rfl hc163 ?_
              refine pG_many 1 (pc1 := 97) (L1 := [some (.ref 185), some (.ref 183), some (.ref x2), d3, some (.int x4), d5]) (st1 := [.int 2]) (M1 := mjTo Z162) (fun _ _ => rfl) ?_
              simp only [Option.some.injEq, Prod.mk.injEq] at h
              obtain ⟨rfl, rfl⟩ := h
              exact pG_ret (r := some (.int 2)) rfl ⟨rfl, rfl⟩
            · rw [if_neg hc163] at h
              refine pG_iff (t := 96) rfl rfl hc163 ?_
              refine pG_many 2 (pc1 := 97) (L1 := [some (.ref 185), some (.ref 183), some (.ref x2), d3, some (.int x4), d5]) (st1 := [.int 0]) (M1 := mjTo Z162) (fun _ _ => rfl) ?_
              simp only [Option.some.injEq, Prod.mk.injEq] at h
              obtain ⟨rfl, rfl⟩ := h
              exact pG_ret (r := some (.int 0)) rfl ⟨rfl, rfl⟩
def f69_read_h23 : Nat → Nat → Int32 → mjZt → Option (Int32 × mjZt)
  | 0, _, _, _ => none
  | n + 1, x2, x4, Z =>
    if mjCmp .gt x4 700 = true then
      some (2, Z)
    else
      if mjCmp .ne (Z.1 185 0) 2 = true then
        f69_read_j59 (f69_read_h23 n) x2 x4 Z
      else
        mjBp (f47_comparisonEnds  Z) fun v165 =>
        if mjCmp .eq v165 0 = true then
          f69_read_j59 (f69_read_h23 n) x2 x4 Z
        else
          mjBd (f49_reduce x2 6 Z) fun _ Z170 =>
          mjLet (zSi Z170 185 0 3) fun Z171 =>
          f69_read_j59 (f69_read_h23 n) x2 x4 Z171
theorem f69_read_h23_ok : ∀ (n : Nat) (x2 : Nat) (x4 : Int32) (d3 d5 : Option Value) (Z : mjZt) (v9 : Int32) (Z9 : mjZt), f69_read_h23 n x2 x4 Z = some (v9, Z9) → pG 69 23 [some (.ref 185), some (.ref 183), some (.ref x2), d3, some (.int x4), d5] [] (mjTo Z) (fun r M1 => r = some (.int v9) ∧ M1 = mjTo Z9)
  | 0, x2, x4, d3, d5, Z, v9, Z9, h => by rw [f69_read_h23] at h; cases h
  | n + 1, x2, x4, d3, d5, Z, v9, Z9, h => by
      rw [f69_read_h23] at h
      refine pG_many 2 (pc1 := 28) (L1 := [some (.ref 185), some (.ref 183), some (.ref x2), d3, some (.int x4), d5]) (st1 := [.int 700, .int x4]) (M1 := mjTo Z) (fun _ _ => rfl) ?_
      by_cases hc108 : mjCmp .gt x4 700 = true
      · rw [if_pos hc108] at h
        refine pG_cmt (t := 233) rfl rfl hc108 ?_
        refine pG_many 1 (pc1 := 234) (L1 := [some (.ref 185), some (.ref 183), some (.ref x2), d3, some (.int x4), d5]) (st1 := [.int 2]) (M1 := mjTo Z) (fun _ _ => rfl) ?_
        simp only [Option.some.injEq, Prod.mk.injEq] at h
        obtain ⟨rfl, rfl⟩ := h
        exact pG_ret (r := some (.int 2)) rfl ⟨rfl, rfl⟩
      · rw [if_neg hc108] at h
        refine pG_cmf (t := 233) rfl rfl hc108 ?_
        refine pG_many 1 (pc1 := 32) (L1 := [some (.ref 185), some (.ref 183), some (.ref x2), d3, some (.int x4), d5]) (st1 := [.ref 185]) (M1 := mjTo Z) (fun _ _ => rfl) ?_
        refine pG_getI (ci := 3) (f := 0) rfl rfl (Or.inl rfl) (by rfl) (by decide) ?_
        refine pG_many 1 (pc1 := 36) (L1 := [some (.ref 185), some (.ref 183), some (.ref x2), d3, some (.int x4), d5]) (st1 := [.int 2, .int (Z.1 185 0)]) (M1 := mjTo Z) (fun _ _ => rfl) ?_
        by_cases hc109 : mjCmp .ne (Z.1 185 0) 2 = true
        · rw [if_pos hc109] at h
          refine pG_cmt (t := 59) rfl rfl hc109 ?_
          exact f69_read_j59_ok (f69_read_h23 n) (fun x2 x4 d3 d5 Z v9 Z9 h => f69_read_h23_ok n x2 x4 d3 d5 Z v9 Z9 h) x2 x4 d3 d5 Z v9 Z9 h
        · rw [if_neg hc109] at h
          refine pG_cmf (t := 59) rfl rfl hc109 ?_
          refine pG_many 2 (pc1 := 41) (L1 := [some (.ref 185), some (.ref 183), some (.ref x2), d3, some (.int x4), d5]) (st1 := [.ref 183, .ref 185]) (M1 := mjTo Z) (fun _ _ => rfl) ?_
          cases hq164 : f47_comparisonEnds  Z with
          | none => rw [hq164] at h; cases h
          | some v165 =>
            rw [hq164, mjBp_some] at h
            refine pG_callV (k2 := 47) (As := [.ref 185, .ref 183]) (rest := []) rfl rfl rfl rfl rfl (by rfl) (by decide) (by decide) (f47_comparisonEnds_ok hq164) ?_
            rintro r9 M9 ⟨rfl, rfl⟩
            show pG 69 44 [some (.ref 185), some (.ref 183), some (.ref x2), d3, some (.int x4), d5] [.int v165] (mjTo Z) _
            by_cases hc167 : mjCmp .eq v165 0 = true
            · rw [if_pos hc167] at h
              refine pG_ift (t := 59) rfl rfl hc167 ?_
              exact f69_read_j59_ok (f69_read_h23 n) (fun x2 x4 d3 d5 Z v9 Z9 h => f69_read_h23_ok n x2 x4 d3 d5 Z v9 Z9 h) x2 x4 d3 d5 Z v9 Z9 h
            · rw [if_neg hc167] at h
              refine pG_iff (t := 59) rfl rfl hc167 ?_
              refine pG_many 3 (pc1 := 51) (L1 := [some (.ref 185), some (.ref 183), some (.ref x2), d3, some (.int x4), d5]) (st1 := [.int 6, .ref x2, .ref 185]) (M1 := mjTo Z) (fun _ _ => rfl) ?_
              cases hq168 : f49_reduce x2 6 Z with
              | none => rw [hq168] at h; cases h
              | some w =>
                obtain ⟨v169, Z170⟩ := w
                rw [hq168, mjBd_some] at h
                refine pG_callV (k2 := 49) (As := [.ref 185, .ref x2, .int 6]) (rest := []) rfl rfl rfl rfl rfl (by rfl) (by decide) (by decide) (f49_reduce_ok hq168) ?_
                rintro r9 M9 ⟨rfl, rfl⟩
                show pG 69 54 [some (.ref 185), some (.ref 183), some (.ref x2), d3, some (.int x4), d5] [] (mjTo Z170) _
                refine pG_many 2 (pc1 := 56) (L1 := [some (.ref 185), some (.ref 183), some (.ref x2), d3, some (.int x4), d5]) (st1 := [.int 3, .ref 185]) (M1 := mjTo Z170) (fun _ _ => rfl) ?_
                refine pG_putI (ci := 3) (f := 0) rfl rfl rfl rfl (by rfl) (by decide) ?_
                rw [mjLet] at h
                generalize zSi Z170 185 0 3 = Z171 at h ⊢
                exact f69_read_j59_ok (f69_read_h23 n) (fun x2 x4 d3 d5 Z v9 Z9 h => f69_read_h23_ok n x2 x4 d3 d5 Z v9 Z9 h) x2 x4 d3 d5 Z171 v9 Z9 h
def f69_read (p1 : Nat) (p2 : Int32) (Z : mjZt) : Option (Int32 × mjZt) :=
  mjLet (zSi Z 185 0 0) fun Z101 =>
  mjLet (zSi Z101 185 1 0) fun Z102 =>
  mjLet (zSi Z102 185 6 0) fun Z103 =>
  if mjIs p1 211 8 = true then
  mjBd (f46_begin p1 p2 Z103) fun _ Z107 =>
  f69_read_h23 mjF p1 0 Z107
  else none
theorem f69_read_ok {p1 : Nat} {p2 : Int32} {Z : mjZt} {v9 : Int32} {Z9 : mjZt} (h : f69_read p1 p2 Z = some (v9, Z9)) : pG 69 0 (mjEnt [.ref 185, .ref 183, .ref p1, .int p2] (mjML 69)) [] (mjTo Z) (fun r M1 => r = some (.int v9) ∧ M1 = mjTo Z9) := by
  unfold f69_read at h
  show pG 69 0 [some (.ref 185), some (.ref 183), some (.ref p1), some (.int p2), none, none] [] (mjTo Z) _
  refine pG_many 2 (pc1 := 2) (L1 := [some (.ref 185), some (.ref 183), some (.ref p1), some (.int p2), none, none]) (st1 := [.int 0, .ref 185]) (M1 := mjTo Z) (fun _ _ => rfl) ?_
  refine pG_putI (ci := 3) (f := 0) rfl rfl rfl rfl (by rfl) (by decide) ?_
  rw [mjLet] at h
  generalize zSi Z 185 0 0 = Z101 at h ⊢
  refine pG_many 2 (pc1 := 7) (L1 := [some (.ref 185), some (.ref 183), some (.ref p1), some (.int p2), none, none]) (st1 := [.int 0, .ref 185]) (M1 := mjTo Z101) (fun _ _ => rfl) ?_
  refine pG_putI (ci := 3) (f := 1) rfl rfl rfl rfl (by rfl) (by decide) ?_
  rw [mjLet] at h
  generalize zSi Z101 185 1 0 = Z102 at h ⊢
  refine pG_many 2 (pc1 := 12) (L1 := [some (.ref 185), some (.ref 183), some (.ref p1), some (.int p2), none, none]) (st1 := [.int 0, .ref 185]) (M1 := mjTo Z102) (fun _ _ => rfl) ?_
  refine pG_putI (ci := 3) (f := 6) rfl rfl rfl rfl (by rfl) (by decide) ?_
  rw [mjLet] at h
  generalize zSi Z102 185 6 0 = Z103 at h ⊢
  refine pG_many 2 (pc1 := 17) (L1 := [some (.ref 185), some (.ref 183), some (.ref p1), some (.int p2), none, none]) (st1 := [.int p2, .ref p1]) (M1 := mjTo Z103) (fun _ _ => rfl) ?_
  have hk104 : mjIs p1 211 8 = true := by
    by_cases q9 : mjIs p1 211 8 = true
    · exact q9
    · rw [if_neg q9] at h; cases h
  rw [if_pos hk104] at h
  cases hq105 : f46_begin p1 p2 Z103 with
  | none => rw [hq105] at h; cases h
  | some w =>
    obtain ⟨v106, Z107⟩ := w
    rw [hq105, mjBd_some] at h
    refine pG_callV (k2 := 46) (As := [.ref p1, .int p2]) (rest := []) rfl rfl rfl rfl rfl (mjRcv_is hk104 (by decide)) (by decide) (by decide) (f46_begin_ok hq105) ?_
    rintro r9 M9 ⟨rfl, rfl⟩
    show pG 69 20 [some (.ref 185), some (.ref 183), some (.ref p1), some (.int p2), none, none] [] (mjTo Z107) _
    refine pG_many 2 (pc1 := 23) (L1 := [some (.ref 185), some (.ref 183), some (.ref p1), some (.int p2), some (.int 0), none]) (st1 := []) (M1 := mjTo Z107) (fun _ _ => rfl) ?_
    exact f69_read_h23_ok mjF p1 0 (some (.int p2)) none Z107 v9 Z9 h
def f72_legAt_h2 : Nat → Nat → Int32 → Int32 → mjZt → Option Int32
  | 0, _, _, _, _ => none
  | n + 1, x0, x1, x2, Z =>
    if mjIs x0 211 7 = true then
    if mjCmp .ge x2 (Z.1 x0 6) = true then
      some (mjMax (Z.1 x0 6) 1)
    else
      mjBp (f5_at (x0 + 3) x2 Z) fun v104 =>
      if mjCmp .gt x1 v104 = true then
        f72_legAt_h2 n x0 x1 (x2 + 1) Z
      else
        some x2
    else none
theorem f72_legAt_h2_ok : ∀ (n : Nat) (x0 : Nat) (x1 : Int32) (x2 : Int32) (Z : mjZt) (v9 : Int32), f72_legAt_h2 n x0 x1 x2 Z = some v9 → pG 71 2 [some (.ref x0), some (.int x1), some (.int x2)] [] (mjTo Z) (fun r M1 => r = some (.int v9) ∧ M1 = mjTo Z)
  | 0, x0, x1, x2, Z, v9, h => by rw [f72_legAt_h2] at h; cases h
  | n + 1, x0, x1, x2, Z, v9, h => by
      rw [f72_legAt_h2] at h
      refine pG_many 2 (pc1 := 4) (L1 := [some (.ref x0), some (.int x1), some (.int x2)]) (st1 := [.ref x0, .int x2]) (M1 := mjTo Z) (fun _ _ => rfl) ?_
      have hk101 : mjIs x0 211 7 = true := by
        by_cases q9 : mjIs x0 211 7 = true
        · exact q9
        · rw [if_neg q9] at h; cases h
      rw [if_pos hk101] at h
      refine pG_getI (ci := 7) (f := 6) rfl rfl (Or.inl rfl) hk101 (by decide) ?_
      by_cases hc102 : mjCmp .ge x2 (Z.1 x0 6) = true
      · rw [if_pos hc102] at h
        refine pG_cmt (t := 30) rfl rfl hc102 ?_
        refine pG_many 1 (pc1 := 31) (L1 := [some (.ref x0), some (.int x1), some (.int x2)]) (st1 := [.ref x0]) (M1 := mjTo Z) (fun _ _ => rfl) ?_
        refine pG_getI (ci := 7) (f := 6) rfl rfl (Or.inl rfl) hk101 (by decide) ?_
        refine pG_many 1 (pc1 := 35) (L1 := [some (.ref x0), some (.int x1), some (.int x2)]) (st1 := [.int 1, .int (Z.1 x0 6)]) (M1 := mjTo Z) (fun _ _ => rfl) ?_
        refine pG_prim (v := .int (mjMax (Z.1 x0 6) 1)) (fun _ _ => rfl) (by decide) rfl ?_
        simp only [Option.some.injEq] at h
        subst h
        exact pG_ret (r := some (.int (mjMax (Z.1 x0 6) 1))) rfl ⟨rfl, rfl⟩
      · rw [if_neg hc102] at h
        refine pG_cmf (t := 30) rfl rfl hc102 ?_
        refine pG_many 2 (pc1 := 12) (L1 := [some (.ref x0), some (.int x1), some (.int x2)]) (st1 := [.ref x0, .int x1]) (M1 := mjTo Z) (fun _ _ => rfl) ?_
        refine pG_getR (ci := 7) (f := 2) (b := x0 + 3) rfl rfl rfl hk101 (by decide) (mjRc7_2 hk101) ?_
        refine pG_many 1 (pc1 := 16) (L1 := [some (.ref x0), some (.int x1), some (.int x2)]) (st1 := [.int x2, .ref (x0 + 3), .int x1]) (M1 := mjTo Z) (fun _ _ => rfl) ?_
        cases hq103 : f5_at (x0 + 3) x2 Z with
        | none => rw [hq103] at h; cases h
        | some v104 =>
          rw [hq103, mjBp_some] at h
          refine pG_call (k2 := 5) (As := [.ref (x0 + 3), .int x2]) (rest := [.int x1]) (fun _ _ => rfl) (by decide) (by decide) (f5_at_ok hq103) ?_
          rintro r9 M9 ⟨rfl, rfl⟩
          show pG 71 19 [some (.ref x0), some (.int x1), some (.int x2)] [.int v104, .int x1] (mjTo Z) _
          by_cases hc106 : mjCmp .gt x1 v104 = true
          · rw [if_pos hc106] at h
            refine pG_cmt (t := 24) rfl rfl hc106 ?_
            refine pG_many 2 (pc1 := 2) (L1 := [some (.ref x0), some (.int x1), some (.int (x2 + 1))]) (st1 := []) (M1 := mjTo Z) (fun _ _ => rfl) ?_
            exact f72_legAt_h2_ok n x0 x1 (x2 + 1) Z v9 h
          · rw [if_neg hc106] at h
            refine pG_cmf (t := 24) rfl rfl hc106 ?_
            refine pG_many 1 (pc1 := 23) (L1 := [some (.ref x0), some (.int x1), some (.int x2)]) (st1 := [.int x2]) (M1 := mjTo Z) (fun _ _ => rfl) ?_
            simp only [Option.some.injEq] at h
            subst h
            exact pG_ret (r := some (.int x2)) rfl ⟨rfl, rfl⟩
def f72_legAt (a0 : Nat) (p0 : Int32) (Z : mjZt) : Option Int32 :=
  f72_legAt_h2 mjF a0 p0 1 Z
theorem f72_legAt_ok {a0 : Nat} {p0 : Int32} {Z : mjZt} {v9 : Int32} (h : f72_legAt a0 p0 Z = some v9) : pG 71 0 (mjEnt [.ref a0, .int p0] (mjML 71)) [] (mjTo Z) (fun r M1 => r = some (.int v9) ∧ M1 = mjTo Z) := by
  unfold f72_legAt at h
  show pG 71 0 [some (.ref a0), some (.int p0), none] [] (mjTo Z) _
  refine pG_many 2 (pc1 := 2) (L1 := [some (.ref a0), some (.int p0), some (.int 1)]) (st1 := []) (M1 := mjTo Z) (fun _ _ => rfl) ?_
  exact f72_legAt_h2_ok mjF a0 p0 1 Z v9 h
def f73_whereAt_j41 (x0 : Nat) (Z : mjZt) : Option Int32 :=
  if mjIs x0 211 7 = true then
  if mjCmp .ne (Z.1 x0 6) 0 = true then
    mjBp (f5_at (x0 + 4) (Z.1 x0 6) Z) fun v112 =>
    some v112
  else
    some 0
  else none
theorem f73_whereAt_j41_ok (x0 : Nat) (d1 d2 d3 d4 d5 : Option Value) (Z : mjZt) (v9 : Int32) (h : f73_whereAt_j41 x0 Z = some v9) : pG 72 41 [some (.ref x0), d1, d2, d3, d4, d5] [] (mjTo Z) (fun r M1 => r = some (.int v9) ∧ M1 = mjTo Z) := by
  unfold f73_whereAt_j41 at h
  refine pG_many 1 (pc1 := 42) (L1 := [some (.ref x0), d1, d2, d3, d4, d5]) (st1 := [.ref x0]) (M1 := mjTo Z) (fun _ _ => rfl) ?_
  have hk109 : mjIs x0 211 7 = true := by
    by_cases q9 : mjIs x0 211 7 = true
    · exact q9
    · rw [if_neg q9] at h; cases h
  rw [if_pos hk109] at h
  refine pG_getI (ci := 7) (f := 6) rfl rfl (Or.inl rfl) hk109 (by decide) ?_
  by_cases hc110 : mjCmp .ne (Z.1 x0 6) 0 = true
  · rw [if_pos hc110] at h
    refine pG_ift (t := 52) rfl rfl hc110 ?_
    refine pG_many 1 (pc1 := 53) (L1 := [some (.ref x0), d1, d2, d3, d4, d5]) (st1 := [.ref x0]) (M1 := mjTo Z) (fun _ _ => rfl) ?_
    refine pG_getR (ci := 7) (f := 3) (b := x0 + 4) rfl rfl rfl hk109 (by decide) (mjRc7_3 hk109) ?_
    refine pG_many 1 (pc1 := 57) (L1 := [some (.ref x0), d1, d2, d3, d4, d5]) (st1 := [.ref x0, .ref (x0 + 4)]) (M1 := mjTo Z) (fun _ _ => rfl) ?_
    refine pG_getI (ci := 7) (f := 6) rfl rfl (Or.inl rfl) hk109 (by decide) ?_
    cases hq111 : f5_at (x0 + 4) (Z.1 x0 6) Z with
    | none => rw [hq111] at h; cases h
    | some v112 =>
      rw [hq111, mjBp_some] at h
      refine pG_call (k2 := 5) (As := [.ref (x0 + 4), .int (Z.1 x0 6)]) (rest := []) (fun _ _ => rfl) (by decide) (by decide) (f5_at_ok hq111) ?_
      rintro r9 M9 ⟨rfl, rfl⟩
      show pG 72 63 [some (.ref x0), d1, d2, d3, d4, d5] [.int v112] (mjTo Z) _
      simp only [Option.some.injEq] at h
      subst h
      exact pG_ret (r := some (.int v112)) rfl ⟨rfl, rfl⟩
  · rw [if_neg hc110] at h
    refine pG_iff (t := 52) rfl rfl hc110 ?_
    refine pG_many 2 (pc1 := 63) (L1 := [some (.ref x0), d1, d2, d3, d4, d5]) (st1 := [.int 0]) (M1 := mjTo Z) (fun _ _ => rfl) ?_
    simp only [Option.some.injEq] at h
    subst h
    exact pG_ret (r := some (.int 0)) rfl ⟨rfl, rfl⟩
def f73_whereAt (a0 : Nat) (p0 : Int32) (Z : mjZt) : Option Int32 :=
  if mjIs a0 211 7 = true then
  mjBp (f72_legAt a0 p0 Z) fun v103 =>
  mjBp (f5_at (a0 + 1) v103 Z) fun v106 =>
  if mjCmp .eq (Z.1 a0 6) 0 = true then
    f73_whereAt_j41 a0 Z
  else
    mjBp (f5_at (a0 + 3) (Z.1 a0 6) Z) fun v115 =>
    if mjCmp .ge p0 v115 = true then
      f73_whereAt_j41 a0 Z
    else
      if mjCmp .ne v106 0 = true then
        mjBp (f5_at (a0 + 4) (v103 - 1) Z) fun v120 =>
        mjBp (f5_at (a0 + 3) (v103 - 1) Z) fun v123 =>
        mjBp (f5_at (a0 + 4) v103 Z) fun v126 =>
        if ¬ v106 = 0 then
        some (v120 + (((mjMax (p0 - v123) 0) * (v126 - v120)) / v106))
        else none
      else
        f73_whereAt_j41 a0 Z
  else none
theorem f73_whereAt_ok {a0 : Nat} {p0 : Int32} {Z : mjZt} {v9 : Int32} (h : f73_whereAt a0 p0 Z = some v9) : pG 72 0 (mjEnt [.ref a0, .int p0] (mjML 72)) [] (mjTo Z) (fun r M1 => r = some (.int v9) ∧ M1 = mjTo Z) := by
  unfold f73_whereAt at h
  show pG 72 0 [some (.ref a0), some (.int p0), none, none, none, none] [] (mjTo Z) _
  refine pG_many 2 (pc1 := 2) (L1 := [some (.ref a0), some (.int p0), none, none, none, none]) (st1 := [.int p0, .ref a0]) (M1 := mjTo Z) (fun _ _ => rfl) ?_
  have hk101 : mjIs a0 211 7 = true := by
    by_cases q9 : mjIs a0 211 7 = true
    · exact q9
    · rw [if_neg q9] at h; cases h
  rw [if_pos hk101] at h
  cases hq102 : f72_legAt a0 p0 Z with
  | none => rw [hq102] at h; cases h
  | some v103 =>
    rw [hq102, mjBp_some] at h
    refine pG_callV (k2 := 71) (As := [.ref a0, .int p0]) (rest := []) rfl rfl rfl rfl rfl (mjRcv_is hk101 (by decide)) (by decide) (by decide) (f72_legAt_ok hq102) ?_
    rintro r9 M9 ⟨rfl, rfl⟩
    show pG 72 5 [some (.ref a0), some (.int p0), none, none, none, none] [.int v103] (mjTo Z) _
    refine pG_many 2 (pc1 := 7) (L1 := [some (.ref a0), some (.int p0), some (.int v103), none, none, none]) (st1 := [.ref a0]) (M1 := mjTo Z) (fun _ _ => rfl) ?_
    refine pG_getR (ci := 7) (f := 0) (b := a0 + 1) rfl rfl rfl hk101 (by decide) (mjRc7_0 hk101) ?_
    refine pG_many 1 (pc1 := 11) (L1 := [some (.ref a0), some (.int p0), some (.int v103), none, none, none]) (st1 := [.int v103, .ref (a0 + 1)]) (M1 := mjTo Z) (fun _ _ => rfl) ?_
    cases hq105 : f5_at (a0 + 1) v103 Z with
    | none => rw [hq105] at h; cases h
    | some v106 =>
      rw [hq105, mjBp_some] at h
      refine pG_call (k2 := 5) (As := [.ref (a0 + 1), .int v103]) (rest := []) (fun _ _ => rfl) (by decide) (by decide) (f5_at_ok hq105) ?_
      rintro r9 M9 ⟨rfl, rfl⟩
      show pG 72 14 [some (.ref a0), some (.int p0), some (.int v103), none, none, none] [.int v106] (mjTo Z) _
      refine pG_many 2 (pc1 := 16) (L1 := [some (.ref a0), some (.int p0), some (.int v103), some (.int v106), none, none]) (st1 := [.ref a0]) (M1 := mjTo Z) (fun _ _ => rfl) ?_
      refine pG_getI (ci := 7) (f := 6) rfl rfl (Or.inl rfl) hk101 (by decide) ?_
      by_cases hc108 : mjCmp .eq (Z.1 a0 6) 0 = true
      · rw [if_pos hc108] at h
        refine pG_ift (t := 41) rfl rfl hc108 ?_
        exact f73_whereAt_j41_ok a0 (some (.int p0)) (some (.int v103)) (some (.int v106)) none none Z v9 h
      · rw [if_neg hc108] at h
        refine pG_iff (t := 41) rfl rfl hc108 ?_
        refine pG_many 2 (pc1 := 24) (L1 := [some (.ref a0), some (.int p0), some (.int v103), some (.int v106), none, none]) (st1 := [.ref a0, .int p0]) (M1 := mjTo Z) (fun _ _ => rfl) ?_
        refine pG_getR (ci := 7) (f := 2) (b := a0 + 3) rfl rfl rfl hk101 (by decide) (mjRc7_2 hk101) ?_
        refine pG_many 1 (pc1 := 28) (L1 := [some (.ref a0), some (.int p0), some (.int v103), some (.int v106), none, none]) (st1 := [.ref a0, .ref (a0 + 3), .int p0]) (M1 := mjTo Z) (fun _ _ => rfl) ?_
        refine pG_getI (ci := 7) (f := 6) rfl rfl (Or.inl rfl) hk101 (by decide) ?_
        cases hq114 : f5_at (a0 + 3) (Z.1 a0 6) Z with
        | none => rw [hq114] at h; cases h
        | some v115 =>
          rw [hq114, mjBp_some] at h
          refine pG_call (k2 := 5) (As := [.ref (a0 + 3), .int (Z.1 a0 6)]) (rest := [.int p0]) (fun _ _ => rfl) (by decide) (by decide) (f5_at_ok hq114) ?_
          rintro r9 M9 ⟨rfl, rfl⟩
          show pG 72 34 [some (.ref a0), some (.int p0), some (.int v103), some (.int v106), none, none] [.int v115, .int p0] (mjTo Z) _
          by_cases hc117 : mjCmp .ge p0 v115 = true
          · rw [if_pos hc117] at h
            refine pG_cmt (t := 41) rfl rfl hc117 ?_
            exact f73_whereAt_j41_ok a0 (some (.int p0)) (some (.int v103)) (some (.int v106)) none none Z v9 h
          · rw [if_neg hc117] at h
            refine pG_cmf (t := 41) rfl rfl hc117 ?_
            refine pG_many 1 (pc1 := 38) (L1 := [some (.ref a0), some (.int p0), some (.int v103), some (.int v106), none, none]) (st1 := [.int v106]) (M1 := mjTo Z) (fun _ _ => rfl) ?_
            by_cases hc118 : mjCmp .ne v106 0 = true
            · rw [if_pos hc118] at h
              refine pG_ift (t := 64) rfl rfl hc118 ?_
              refine pG_many 1 (pc1 := 65) (L1 := [some (.ref a0), some (.int p0), some (.int v103), some (.int v106), none, none]) (st1 := [.ref a0]) (M1 := mjTo Z) (fun _ _ => rfl) ?_
              refine pG_getR (ci := 7) (f := 3) (b := a0 + 4) rfl rfl rfl hk101 (by decide) (mjRc7_3 hk101) ?_
              refine pG_many 3 (pc1 := 71) (L1 := [some (.ref a0), some (.int p0), some (.int v103), some (.int v106), none, none]) (st1 := [.int (v103 - 1), .ref (a0 + 4)]) (M1 := mjTo Z) (fun _ _ => rfl) ?_
              cases hq119 : f5_at (a0 + 4) (v103 - 1) Z with
              | none => rw [hq119] at h; cases h
              | some v120 =>
                rw [hq119, mjBp_some] at h
                refine pG_call (k2 := 5) (As := [.ref (a0 + 4), .int (v103 - 1)]) (rest := []) (fun _ _ => rfl) (by decide) (by decide) (f5_at_ok hq119) ?_
                rintro r9 M9 ⟨rfl, rfl⟩
                show pG 72 74 [some (.ref a0), some (.int p0), some (.int v103), some (.int v106), none, none] [.int v120] (mjTo Z) _
                refine pG_many 3 (pc1 := 78) (L1 := [some (.ref a0), some (.int p0), some (.int v103), some (.int v106), some (.int v120), none]) (st1 := [.ref a0, .int p0]) (M1 := mjTo Z) (fun _ _ => rfl) ?_
                refine pG_getR (ci := 7) (f := 2) (b := a0 + 3) rfl rfl rfl hk101 (by decide) (mjRc7_2 hk101) ?_
                refine pG_many 3 (pc1 := 84) (L1 := [some (.ref a0), some (.int p0), some (.int v103), some (.int v106), some (.int v120), none]) (st1 := [.int (v103 - 1), .ref (a0 + 3), .int p0]) (M1 := mjTo Z) (fun _ _ => rfl) ?_
                cases hq122 : f5_at (a0 + 3) (v103 - 1) Z with
                | none => rw [hq122] at h; cases h
                | some v123 =>
                  rw [hq122, mjBp_some] at h
                  refine pG_call (k2 := 5) (As := [.ref (a0 + 3), .int (v103 - 1)]) (rest := [.int p0]) (fun _ _ => rfl) (by decide) (by decide) (f5_at_ok hq122) ?_
                  rintro r9 M9 ⟨rfl, rfl⟩
                  show pG 72 87 [some (.ref a0), some (.int p0), some (.int v103), some (.int v106), some (.int v120), none] [.int v123, .int p0] (mjTo Z) _
                  refine pG_many 2 (pc1 := 89) (L1 := [some (.ref a0), some (.int p0), some (.int v103), some (.int v106), some (.int v120), none]) (st1 := [.int 0, .int (p0 - v123)]) (M1 := mjTo Z) (fun _ _ => rfl) ?_
                  refine pG_prim (v := .int (mjMax (p0 - v123) 0)) (fun _ _ => rfl) (by decide) rfl ?_
                  refine pG_many 4 (pc1 := 99) (L1 := [some (.ref a0), some (.int p0), some (.int v103), some (.int v106), some (.int v120), some (.int (mjMax (p0 - v123) 0))]) (st1 := [.ref a0, .int (mjMax (p0 - v123) 0), .int v120]) (M1 := mjTo Z) (fun _ _ => rfl) ?_
                  refine pG_getR (ci := 7) (f := 3) (b := a0 + 4) rfl rfl rfl hk101 (by decide) (mjRc7_3 hk101) ?_
                  refine pG_many 1 (pc1 := 103) (L1 := [some (.ref a0), some (.int p0), some (.int v103), some (.int v106), some (.int v120), some (.int (mjMax (p0 - v123) 0))]) (st1 := [.int v103, .ref (a0 + 4), .int (mjMax (p0 - v123) 0), .int v120]) (M1 := mjTo Z) (fun _ _ => rfl) ?_
                  cases hq125 : f5_at (a0 + 4) v103 Z with
                  | none => rw [hq125] at h; cases h
                  | some v126 =>
                    rw [hq125, mjBp_some] at h
                    refine pG_call (k2 := 5) (As := [.ref (a0 + 4), .int v103]) (rest := [.int (mjMax (p0 - v123) 0), .int v120]) (fun _ _ => rfl) (by decide) (by decide) (f5_at_ok hq125) ?_
                    rintro r9 M9 ⟨rfl, rfl⟩
                    show pG 72 106 [some (.ref a0), some (.int p0), some (.int v103), some (.int v106), some (.int v120), some (.int (mjMax (p0 - v123) 0))] [.int v126, .int (mjMax (p0 - v123) 0), .int v120] (mjTo Z) _
                    refine pG_many 4 (pc1 := 111) (L1 := [some (.ref a0), some (.int p0), some (.int v103), some (.int v106), some (.int v120), some (.int (mjMax (p0 - v123) 0))]) (st1 := [.int v106, .int ((mjMax (p0 - v123) 0) * (v126 - v120)), .int v120]) (M1 := mjTo Z) (fun _ _ => rfl) ?_
                    have hk128 : ¬ v106 = 0 := by
                      by_cases q9 : ¬ v106 = 0
                      · exact q9
                      · rw [if_neg q9] at h; cases h
                    rw [if_pos hk128] at h
                    refine pG_div rfl hk128 ?_
                    refine pG_many 1 (pc1 := 113) (L1 := [some (.ref a0), some (.int p0), some (.int v103), some (.int v106), some (.int v120), some (.int (mjMax (p0 - v123) 0))]) (st1 := [.int (v120 + (((mjMax (p0 - v123) 0) * (v126 - v120)) / v106))]) (M1 := mjTo Z) (fun _ _ => rfl) ?_
                    simp only [Option.some.injEq] at h
                    subst h
                    exact pG_ret (r := some (.int (v120 + (((mjMax (p0 - v123) 0) * (v126 - v120)) / v106)))) rfl ⟨rfl, rfl⟩
            · rw [if_neg hc118] at h
              refine pG_iff (t := 64) rfl rfl hc118 ?_
              exact f73_whereAt_j41_ok a0 (some (.int p0)) (some (.int v103)) (some (.int v106)) none none Z v9 h
def f324_bitCount (p0 : Int64) (Z : mjZt) : Option Int32 :=
  mjLet (p0 - ((((p0 : Int64).toUInt64 >>> ((1 : Int32).toInt64.toUInt64 &&& Int64.toUInt64 63)).toInt64) &&& 6148914691236517205) : Int64) fun x_101 =>
  mjLet ((x_101 &&& 3689348814741910323) + ((((x_101 : Int64).toUInt64 >>> ((2 : Int32).toInt64.toUInt64 &&& Int64.toUInt64 63)).toInt64) &&& 3689348814741910323) : Int64) fun x_102 =>
  mjLet ((x_102 + (((x_102 : Int64).toUInt64 >>> ((4 : Int32).toInt64.toUInt64 &&& Int64.toUInt64 63)).toInt64)) &&& 1085102592571150095 : Int64) fun x_103 =>
  mjLet (x_103 + (((x_103 : Int64).toUInt64 >>> ((8 : Int32).toInt64.toUInt64 &&& Int64.toUInt64 63)).toInt64) : Int64) fun x_104 =>
  mjLet (x_104 + (((x_104 : Int64).toUInt64 >>> ((16 : Int32).toInt64.toUInt64 &&& Int64.toUInt64 63)).toInt64) : Int64) fun x_105 =>
  mjLet (x_105 + (((x_105 : Int64).toUInt64 >>> ((32 : Int32).toInt64.toUInt64 &&& Int64.toUInt64 63)).toInt64) : Int64) fun x_106 =>
  some ((Int64.toInt32 x_106) &&& 127)
theorem f324_bitCount_ok {p0 : Int64} {Z : mjZt} {v9 : Int32} (h : f324_bitCount p0 Z = some v9) : pG 167 0 (mjEnt [.long p0] (mjML 167)) [] (mjTo Z) (fun r M1 => r = some (.int v9) ∧ M1 = mjTo Z) := by
  unfold f324_bitCount at h
  show pG 167 0 [some (.long p0), none] [] (mjTo Z) _
  refine pG_many 8 (pc1 := 10) (L1 := [some (.long (p0 - ((((p0 : Int64).toUInt64 >>> ((1 : Int32).toInt64.toUInt64 &&& Int64.toUInt64 63)).toInt64) &&& 6148914691236517205))), none]) (st1 := []) (M1 := mjTo Z) (fun _ _ => rfl) ?_
  rw [mjLet] at h
  generalize (p0 - ((((p0 : Int64).toUInt64 >>> ((1 : Int32).toInt64.toUInt64 &&& Int64.toUInt64 63)).toInt64) &&& 6148914691236517205) : Int64) = x_101 at h ⊢
  refine pG_many 10 (pc1 := 24) (L1 := [some (.long ((x_101 &&& 3689348814741910323) + ((((x_101 : Int64).toUInt64 >>> ((2 : Int32).toInt64.toUInt64 &&& Int64.toUInt64 63)).toInt64) &&& 3689348814741910323))), none]) (st1 := []) (M1 := mjTo Z) (fun _ _ => rfl) ?_
  rw [mjLet] at h
  generalize ((x_101 &&& 3689348814741910323) + ((((x_101 : Int64).toUInt64 >>> ((2 : Int32).toInt64.toUInt64 &&& Int64.toUInt64 63)).toInt64) &&& 3689348814741910323) : Int64) = x_102 at h ⊢
  refine pG_many 8 (pc1 := 34) (L1 := [some (.long ((x_102 + (((x_102 : Int64).toUInt64 >>> ((4 : Int32).toInt64.toUInt64 &&& Int64.toUInt64 63)).toInt64)) &&& 1085102592571150095)), none]) (st1 := []) (M1 := mjTo Z) (fun _ _ => rfl) ?_
  rw [mjLet] at h
  generalize ((x_102 + (((x_102 : Int64).toUInt64 >>> ((4 : Int32).toInt64.toUInt64 &&& Int64.toUInt64 63)).toInt64)) &&& 1085102592571150095 : Int64) = x_103 at h ⊢
  refine pG_many 6 (pc1 := 41) (L1 := [some (.long (x_103 + (((x_103 : Int64).toUInt64 >>> ((8 : Int32).toInt64.toUInt64 &&& Int64.toUInt64 63)).toInt64))), none]) (st1 := []) (M1 := mjTo Z) (fun _ _ => rfl) ?_
  rw [mjLet] at h
  generalize (x_103 + (((x_103 : Int64).toUInt64 >>> ((8 : Int32).toInt64.toUInt64 &&& Int64.toUInt64 63)).toInt64) : Int64) = x_104 at h ⊢
  refine pG_many 6 (pc1 := 48) (L1 := [some (.long (x_104 + (((x_104 : Int64).toUInt64 >>> ((16 : Int32).toInt64.toUInt64 &&& Int64.toUInt64 63)).toInt64))), none]) (st1 := []) (M1 := mjTo Z) (fun _ _ => rfl) ?_
  rw [mjLet] at h
  generalize (x_104 + (((x_104 : Int64).toUInt64 >>> ((16 : Int32).toInt64.toUInt64 &&& Int64.toUInt64 63)).toInt64) : Int64) = x_105 at h ⊢
  refine pG_many 6 (pc1 := 55) (L1 := [some (.long (x_105 + (((x_105 : Int64).toUInt64 >>> ((32 : Int32).toInt64.toUInt64 &&& Int64.toUInt64 63)).toInt64))), none]) (st1 := []) (M1 := mjTo Z) (fun _ _ => rfl) ?_
  rw [mjLet] at h
  generalize (x_105 + (((x_105 : Int64).toUInt64 >>> ((32 : Int32).toInt64.toUInt64 &&& Int64.toUInt64 63)).toInt64) : Int64) = x_106 at h ⊢
  refine pG_many 4 (pc1 := 60) (L1 := [some (.long x_106), none]) (st1 := [.int ((Int64.toInt32 x_106) &&& 127)]) (M1 := mjTo Z) (fun _ _ => rfl) ?_
  simp only [Option.some.injEq] at h
  subst h
  exact pG_ret (r := some (.int ((Int64.toInt32 x_106) &&& 127))) rfl ⟨rfl, rfl⟩
def f74_look_h235 : Nat → Nat → Int32 → Int32 → Int32 → Int32 → mjZt → Option (Unit × mjZt)
  | 0, _, _, _, _, _, _ => none
  | n + 1, x1, x3, x9, x11, x12, Z =>
    if mjIs x1 211 2 = true then
    if mjCmp .ge x12 (Z.1 x1 5) = true then
      mjLet (zSi Z 191 10 (1 + x11)) fun Z165 =>
      some ((), Z165)
    else
      mjBp (f8_runner x1 x12 Z) fun v167 =>
      if mjIs v167 211 7 = true then
      mjBp (f73_whereAt v167 x3 Z) fun v171 =>
      if mjCmp .le v171 x9 = true then
        f74_look_h235 n x1 x3 x9 x11 (x12 + 1) Z
      else
        f74_look_h235 n x1 x3 x9 (x11 + 1) (x12 + 1) Z
      else none
    else none
theorem f74_look_h235_ok : ∀ (n : Nat) (x1 : Nat) (x3 : Int32) (x9 : Int32) (x11 : Int32) (x12 : Int32) (d2 d4 d5 d6 d7 d8 d10 : Option Value) (Z : mjZt) (v9 : Unit) (Z9 : mjZt), f74_look_h235 n x1 x3 x9 x11 x12 Z = some (v9, Z9) → pG 73 235 [some (.ref 190), some (.ref x1), d2, some (.int x3), d4, d5, d6, d7, d8, some (.int x9), d10, some (.int x11), some (.int x12)] [] (mjTo Z) (fun r M1 => r = none ∧ M1 = mjTo Z9)
  | 0, x1, x3, x9, x11, x12, d2, d4, d5, d6, d7, d8, d10, Z, v9, Z9, h => by rw [f74_look_h235] at h; cases h
  | n + 1, x1, x3, x9, x11, x12, d2, d4, d5, d6, d7, d8, d10, Z, v9, Z9, h => by
      rw [f74_look_h235] at h
      refine pG_many 2 (pc1 := 238) (L1 := [some (.ref 190), some (.ref x1), d2, some (.int x3), d4, d5, d6, d7, d8, some (.int x9), d10, some (.int x11), some (.int x12)]) (st1 := [.ref x1, .int x12]) (M1 := mjTo Z) (fun _ _ => rfl) ?_
      have hk163 : mjIs x1 211 2 = true := by
        by_cases q9 : mjIs x1 211 2 = true
        · exact q9
        · rw [if_neg q9] at h; cases h
      rw [if_pos hk163] at h
      refine pG_getI (ci := 2) (f := 5) rfl rfl (Or.inl rfl) hk163 (by decide) ?_
      by_cases hc164 : mjCmp .ge x12 (Z.1 x1 5) = true
      · rw [if_pos hc164] at h
        refine pG_cmt (t := 268) rfl rfl hc164 ?_
        refine pG_many 1 (pc1 := 269) (L1 := [some (.ref 190), some (.ref x1), d2, some (.int x3), d4, d5, d6, d7, d8, some (.int x9), d10, some (.int x11), some (.int x12)]) (st1 := [.ref 190]) (M1 := mjTo Z) (fun _ _ => rfl) ?_
        refine pG_getR (ci := 4) (f := 0) (b := 191) rfl rfl rfl (by rfl) (by decide) rfl ?_
        refine pG_many 4 (pc1 := 278) (L1 := [some (.ref 190), some (.ref x1), d2, some (.int x3), d4, d5, d6, d7, d8, some (.int x9), d10, some (.int x11), some (.int x12)]) (st1 := [.int (1 + x11), .int 10, .ref 191]) (M1 := mjTo Z) (fun _ _ => rfl) ?_
        refine pG_ias rfl (by rfl) (by decide) (?_ : pG 73 279 [some (.ref 190), some (.ref x1), d2, some (.int x3), d4, d5, d6, d7, d8, some (.int x9), d10, some (.int x11), some (.int x12)] [] (mjTo (zSi Z 191 10 (1 + x11))) _)
        rw [mjLet] at h
        generalize zSi Z 191 10 (1 + x11) = Z165 at h ⊢
        simp only [Option.some.injEq, Prod.mk.injEq] at h
        obtain ⟨-, rfl⟩ := h
        exact pG_ret (r := none) rfl ⟨rfl, rfl⟩
      · rw [if_neg hc164] at h
        refine pG_cmf (t := 268) rfl rfl hc164 ?_
        refine pG_many 2 (pc1 := 247) (L1 := [some (.ref 190), some (.ref x1), d2, some (.int x3), d4, d5, d6, d7, d8, some (.int x9), d10, some (.int x11), some (.int x12)]) (st1 := [.int x12, .ref x1]) (M1 := mjTo Z) (fun _ _ => rfl) ?_
        cases hq166 : f8_runner x1 x12 Z with
        | none => rw [hq166] at h; cases h
        | some v167 =>
          rw [hq166, mjBp_some] at h
          refine pG_callV (k2 := 8) (As := [.ref x1, .int x12]) (rest := []) rfl rfl rfl rfl rfl (mjRcv_is hk163 (by decide)) (by decide) (by decide) (f8_runner_ok hq166) ?_
          rintro r9 M9 ⟨rfl, rfl⟩
          show pG 73 250 [some (.ref 190), some (.ref x1), d2, some (.int x3), d4, d5, d6, d7, d8, some (.int x9), d10, some (.int x11), some (.int x12)] [.ref v167] (mjTo Z) _
          refine pG_many 1 (pc1 := 251) (L1 := [some (.ref 190), some (.ref x1), d2, some (.int x3), d4, d5, d6, d7, d8, some (.int x9), d10, some (.int x11), some (.int x12)]) (st1 := [.int x3, .ref v167]) (M1 := mjTo Z) (fun _ _ => rfl) ?_
          have hk169 : mjIs v167 211 7 = true := by
            by_cases q9 : mjIs v167 211 7 = true
            · exact q9
            · rw [if_neg q9] at h; cases h
          rw [if_pos hk169] at h
          cases hq170 : f73_whereAt v167 x3 Z with
          | none => rw [hq170] at h; cases h
          | some v171 =>
            rw [hq170, mjBp_some] at h
            refine pG_callV (k2 := 72) (As := [.ref v167, .int x3]) (rest := []) rfl rfl rfl rfl rfl (mjRcv_is hk169 (by decide)) (by decide) (by decide) (f73_whereAt_ok hq170) ?_
            rintro r9 M9 ⟨rfl, rfl⟩
            show pG 73 254 [some (.ref 190), some (.ref x1), d2, some (.int x3), d4, d5, d6, d7, d8, some (.int x9), d10, some (.int x11), some (.int x12)] [.int v171] (mjTo Z) _
            refine pG_many 1 (pc1 := 256) (L1 := [some (.ref 190), some (.ref x1), d2, some (.int x3), d4, d5, d6, d7, d8, some (.int x9), d10, some (.int x11), some (.int x12)]) (st1 := [.int x9, .int v171]) (M1 := mjTo Z) (fun _ _ => rfl) ?_
            by_cases hc173 : mjCmp .le v171 x9 = true
            · rw [if_pos hc173] at h
              refine pG_cmt (t := 262) rfl rfl hc173 ?_
              refine pG_many 2 (pc1 := 235) (L1 := [some (.ref 190), some (.ref x1), d2, some (.int x3), d4, d5, d6, d7, d8, some (.int x9), d10, some (.int x11), some (.int (x12 + 1))]) (st1 := []) (M1 := mjTo Z) (fun _ _ => rfl) ?_
              exact f74_look_h235_ok n x1 x3 x9 x11 (x12 + 1) d2 d4 d5 d6 d7 d8 d10 Z v9 Z9 h
            · rw [if_neg hc173] at h
              refine pG_cmf (t := 262) rfl rfl hc173 ?_
              refine pG_many 3 (pc1 := 235) (L1 := [some (.ref 190), some (.ref x1), d2, some (.int x3), d4, d5, d6, d7, d8, some (.int x9), (mjK1 d10), some (.int (x11 + 1)), some (.int (x12 + 1))]) (st1 := []) (M1 := mjTo Z) (fun _ _ => rfl) ?_
              exact f74_look_h235_ok n x1 x3 x9 (x11 + 1) (x12 + 1) d2 d4 d5 d6 d7 d8 ((mjK1 d10)) Z v9 Z9 h
def f74_look_j182 (x1 : Nat) (x2 : Int32) (x3 : Int32) (x5 : Int64) (x9 : Int32) (s1 : Int32) (s2 : Int32) (Z : mjZt) : Option (Unit × mjZt) :=
  if mjIn s1 11 = true then
  mjLet (zSi Z 191 (mjIx s1) s2) fun Z147 =>
  if mjIs x1 211 2 = true then
  mjBp (f41_earlier x1 x2 x3 Z147) fun v150 =>
  mjBp (f324_bitCount (v150 &&& (x5 ^^^ ((-1)))) Z147) fun v153 =>
  mjLet (zSi Z147 191 8 v153) fun Z155 =>
  mjBp (f42_forcers x1 x2 x3 Z155) fun v157 =>
  mjBp (f324_bitCount (v157 &&& (x5 ^^^ ((-1)))) Z155) fun v160 =>
  mjLet (zSi Z155 191 9 v160) fun Z162 =>
  f74_look_h235 mjF x1 x3 x9 0 0 Z162
  else none
  else none
theorem f74_look_j182_ok (x1 : Nat) (x2 : Int32) (x3 : Int32) (x5 : Int64) (x9 : Int32) (s1 : Int32) (s2 : Int32) (d4 d6 d7 d8 d10 d11 d12 : Option Value) (Z : mjZt) (v9 : Unit) (Z9 : mjZt) (h : f74_look_j182 x1 x2 x3 x5 x9 s1 s2 Z = some (v9, Z9)) : pG 73 182 [some (.ref 190), some (.ref x1), some (.int x2), some (.int x3), d4, some (.long x5), d6, d7, d8, some (.int x9), d10, d11, d12] [.int s2, .int s1, .ref 191] (mjTo Z) (fun r M1 => r = none ∧ M1 = mjTo Z9) := by
  unfold f74_look_j182 at h
  have hk146 : mjIn s1 11 = true := by
    by_cases q9 : mjIn s1 11 = true
    · exact q9
    · rw [if_neg q9] at h; cases h
  rw [if_pos hk146] at h
  refine pG_ias rfl (by rfl) hk146 (?_ : pG 73 183 [some (.ref 190), some (.ref x1), some (.int x2), some (.int x3), d4, some (.long x5), d6, d7, d8, some (.int x9), d10, d11, d12] [] (mjTo (zSi Z 191 (mjIx s1) s2)) _)
  rw [mjLet] at h
  generalize zSi Z 191 (mjIx s1) s2 = Z147 at h ⊢
  refine pG_many 1 (pc1 := 184) (L1 := [some (.ref 190), some (.ref x1), some (.int x2), some (.int x3), d4, some (.long x5), d6, d7, d8, some (.int x9), d10, d11, d12]) (st1 := [.ref 190]) (M1 := mjTo Z147) (fun _ _ => rfl) ?_
  refine pG_getR (ci := 4) (f := 0) (b := 191) rfl rfl rfl (by rfl) (by decide) rfl ?_
  refine pG_many 4 (pc1 := 192) (L1 := [some (.ref 190), some (.ref x1), some (.int x2), some (.int x3), d4, some (.long x5), d6, d7, d8, some (.int x9), d10, d11, d12]) (st1 := [.int x3, .int x2, .ref x1, .int 8, .ref 191]) (M1 := mjTo Z147) (fun _ _ => rfl) ?_
  have hk148 : mjIs x1 211 2 = true := by
    by_cases q9 : mjIs x1 211 2 = true
    · exact q9
    · rw [if_neg q9] at h; cases h
  rw [if_pos hk148] at h
  cases hq149 : f41_earlier x1 x2 x3 Z147 with
  | none => rw [hq149] at h; cases h
  | some v150 =>
    rw [hq149, mjBp_some] at h
    refine pG_callV (k2 := 41) (As := [.ref x1, .int x2, .int x3]) (rest := [.int 8, .ref 191]) rfl rfl rfl rfl rfl (mjRcv_is hk148 (by decide)) (by decide) (by decide) (f41_earlier_ok hq149) ?_
    rintro r9 M9 ⟨rfl, rfl⟩
    show pG 73 195 [some (.ref 190), some (.ref x1), some (.int x2), some (.int x3), d4, some (.long x5), d6, d7, d8, some (.int x9), d10, d11, d12] [.long v150, .int 8, .ref 191] (mjTo Z147) _
    refine pG_many 4 (pc1 := 202) (L1 := [some (.ref 190), some (.ref x1), some (.int x2), some (.int x3), d4, some (.long x5), d6, d7, d8, some (.int x9), d10, d11, d12]) (st1 := [.long (v150 &&& (x5 ^^^ ((-1)))), .int 8, .ref 191]) (M1 := mjTo Z147) (fun _ _ => rfl) ?_
    cases hq152 : f324_bitCount (v150 &&& (x5 ^^^ ((-1)))) Z147 with
    | none => rw [hq152] at h; cases h
    | some v153 =>
      rw [hq152, mjBp_some] at h
      refine pG_call (k2 := 167) (As := [.long (v150 &&& (x5 ^^^ ((-1))))]) (rest := [.int 8, .ref 191]) (fun _ _ => rfl) (by decide) (by decide) (f324_bitCount_ok hq152) ?_
      rintro r9 M9 ⟨rfl, rfl⟩
      show pG 73 205 [some (.ref 190), some (.ref x1), some (.int x2), some (.int x3), d4, some (.long x5), d6, d7, d8, some (.int x9), d10, d11, d12] [.int v153, .int 8, .ref 191] (mjTo Z147) _
      refine pG_ias rfl (by rfl) (by decide) (?_ : pG 73 206 [some (.ref 190), some (.ref x1), some (.int x2), some (.int x3), d4, some (.long x5), d6, d7, d8, some (.int x9), d10, d11, d12] [] (mjTo (zSi Z147 191 8 v153)) _)
      rw [mjLet] at h
      generalize zSi Z147 191 8 v153 = Z155 at h ⊢
      refine pG_many 1 (pc1 := 207) (L1 := [some (.ref 190), some (.ref x1), some (.int x2), some (.int x3), d4, some (.long x5), d6, d7, d8, some (.int x9), d10, d11, d12]) (st1 := [.ref 190]) (M1 := mjTo Z155) (fun _ _ => rfl) ?_
      refine pG_getR (ci := 4) (f := 0) (b := 191) rfl rfl rfl (by rfl) (by decide) rfl ?_
      refine pG_many 4 (pc1 := 215) (L1 := [some (.ref 190), some (.ref x1), some (.int x2), some (.int x3), d4, some (.long x5), d6, d7, d8, some (.int x9), d10, d11, d12]) (st1 := [.int x3, .int x2, .ref x1, .int 9, .ref 191]) (M1 := mjTo Z155) (fun _ _ => rfl) ?_
      cases hq156 : f42_forcers x1 x2 x3 Z155 with
      | none => rw [hq156] at h; cases h
      | some v157 =>
        rw [hq156, mjBp_some] at h
        refine pG_callV (k2 := 42) (As := [.ref x1, .int x2, .int x3]) (rest := [.int 9, .ref 191]) rfl rfl rfl rfl rfl (mjRcv_is hk148 (by decide)) (by decide) (by decide) (f42_forcers_ok hq156) ?_
        rintro r9 M9 ⟨rfl, rfl⟩
        show pG 73 218 [some (.ref 190), some (.ref x1), some (.int x2), some (.int x3), d4, some (.long x5), d6, d7, d8, some (.int x9), d10, d11, d12] [.long v157, .int 9, .ref 191] (mjTo Z155) _
        refine pG_many 4 (pc1 := 225) (L1 := [some (.ref 190), some (.ref x1), some (.int x2), some (.int x3), d4, some (.long x5), d6, d7, d8, some (.int x9), d10, d11, d12]) (st1 := [.long (v157 &&& (x5 ^^^ ((-1)))), .int 9, .ref 191]) (M1 := mjTo Z155) (fun _ _ => rfl) ?_
        cases hq159 : f324_bitCount (v157 &&& (x5 ^^^ ((-1)))) Z155 with
        | none => rw [hq159] at h; cases h
        | some v160 =>
          rw [hq159, mjBp_some] at h
          refine pG_call (k2 := 167) (As := [.long (v157 &&& (x5 ^^^ ((-1))))]) (rest := [.int 9, .ref 191]) (fun _ _ => rfl) (by decide) (by decide) (f324_bitCount_ok hq159) ?_
          rintro r9 M9 ⟨rfl, rfl⟩
          show pG 73 228 [some (.ref 190), some (.ref x1), some (.int x2), some (.int x3), d4, some (.long x5), d6, d7, d8, some (.int x9), d10, d11, d12] [.int v160, .int 9, .ref 191] (mjTo Z155) _
          refine pG_ias rfl (by rfl) (by decide) (?_ : pG 73 229 [some (.ref 190), some (.ref x1), some (.int x2), some (.int x3), d4, some (.long x5), d6, d7, d8, some (.int x9), d10, d11, d12] [] (mjTo (zSi Z155 191 9 v160)) _)
          rw [mjLet] at h
          generalize zSi Z155 191 9 v160 = Z162 at h ⊢
          refine pG_many 4 (pc1 := 235) (L1 := [some (.ref 190), some (.ref x1), some (.int x2), some (.int x3), d4, some (.long x5), d6, d7, d8, some (.int x9), (mjK1 d10), some (.int 0), some (.int 0)]) (st1 := []) (M1 := mjTo Z162) (fun _ _ => rfl) ?_
          exact f74_look_h235_ok mjF x1 x3 x9 0 0 (some (.int x2)) d4 (some (.long x5)) d6 d7 d8 ((mjK1 d10)) Z162 v9 Z9 h
def f74_look_j149 (x1 : Nat) (x2 : Int32) (x3 : Int32) (x5 : Int64) (x9 : Int32) (s1 : Int32) (s2 : Int32) (Z : mjZt) : Option (Unit × mjZt) :=
  if mjIn s1 11 = true then
  mjLet (zSi Z 191 (mjIx s1) s2) fun Z143 =>
  if mjIs x1 211 2 = true then
  if mjCmp .ne (Z143.1 x1 4) 0 = true then
    f74_look_j182 x1 x2 x3 x5 x9 7 (((Z143.1 x1 1) + (Z143.1 x1 4)) - (x9 / 10)) Z143
  else
    f74_look_j182 x1 x2 x3 x5 x9 7 0 Z143
  else none
  else none
theorem f74_look_j149_ok (x1 : Nat) (x2 : Int32) (x3 : Int32) (x5 : Int64) (x9 : Int32) (s1 : Int32) (s2 : Int32) (d4 d6 d7 d8 d10 d11 d12 : Option Value) (Z : mjZt) (v9 : Unit) (Z9 : mjZt) (h : f74_look_j149 x1 x2 x3 x5 x9 s1 s2 Z = some (v9, Z9)) : pG 73 149 [some (.ref 190), some (.ref x1), some (.int x2), some (.int x3), d4, some (.long x5), d6, d7, d8, some (.int x9), d10, d11, d12] [.int s2, .int s1, .ref 191] (mjTo Z) (fun r M1 => r = none ∧ M1 = mjTo Z9) := by
  unfold f74_look_j149 at h
  have hk142 : mjIn s1 11 = true := by
    by_cases q9 : mjIn s1 11 = true
    · exact q9
    · rw [if_neg q9] at h; cases h
  rw [if_pos hk142] at h
  refine pG_ias rfl (by rfl) hk142 (?_ : pG 73 150 [some (.ref 190), some (.ref x1), some (.int x2), some (.int x3), d4, some (.long x5), d6, d7, d8, some (.int x9), d10, d11, d12] [] (mjTo (zSi Z 191 (mjIx s1) s2)) _)
  rw [mjLet] at h
  generalize zSi Z 191 (mjIx s1) s2 = Z143 at h ⊢
  refine pG_many 1 (pc1 := 151) (L1 := [some (.ref 190), some (.ref x1), some (.int x2), some (.int x3), d4, some (.long x5), d6, d7, d8, some (.int x9), d10, d11, d12]) (st1 := [.ref 190]) (M1 := mjTo Z143) (fun _ _ => rfl) ?_
  refine pG_getR (ci := 4) (f := 0) (b := 191) rfl rfl rfl (by rfl) (by decide) rfl ?_
  refine pG_many 2 (pc1 := 157) (L1 := [some (.ref 190), some (.ref x1), some (.int x2), some (.int x3), d4, some (.long x5), d6, d7, d8, some (.int x9), d10, d11, d12]) (st1 := [.ref x1, .int 7, .ref 191]) (M1 := mjTo Z143) (fun _ _ => rfl) ?_
  have hk144 : mjIs x1 211 2 = true := by
    by_cases q9 : mjIs x1 211 2 = true
    · exact q9
    · rw [if_neg q9] at h; cases h
  rw [if_pos hk144] at h
  refine pG_getI (ci := 2) (f := 4) rfl rfl (Or.inl rfl) hk144 (by decide) ?_
  by_cases hc145 : mjCmp .ne (Z143.1 x1 4) 0 = true
  · rw [if_pos hc145] at h
    refine pG_ift (t := 167) rfl rfl hc145 ?_
    refine pG_many 1 (pc1 := 168) (L1 := [some (.ref 190), some (.ref x1), some (.int x2), some (.int x3), d4, some (.long x5), d6, d7, d8, some (.int x9), d10, d11, d12]) (st1 := [.ref x1, .int 7, .ref 191]) (M1 := mjTo Z143) (fun _ _ => rfl) ?_
    refine pG_getI (ci := 2) (f := 1) rfl rfl (Or.inl rfl) hk144 (by decide) ?_
    refine pG_many 1 (pc1 := 172) (L1 := [some (.ref 190), some (.ref x1), some (.int x2), some (.int x3), d4, some (.long x5), d6, d7, d8, some (.int x9), d10, d11, d12]) (st1 := [.ref x1, .int (Z143.1 x1 1), .int 7, .ref 191]) (M1 := mjTo Z143) (fun _ _ => rfl) ?_
    refine pG_getI (ci := 2) (f := 4) rfl rfl (Or.inl rfl) hk144 (by decide) ?_
    refine pG_many 3 (pc1 := 180) (L1 := [some (.ref 190), some (.ref x1), some (.int x2), some (.int x3), d4, some (.long x5), d6, d7, d8, some (.int x9), d10, d11, d12]) (st1 := [.int 10, .int x9, .int ((Z143.1 x1 1) + (Z143.1 x1 4)), .int 7, .ref 191]) (M1 := mjTo Z143) (fun _ _ => rfl) ?_
    refine pG_div rfl (by decide) ?_
    refine pG_many 1 (pc1 := 182) (L1 := [some (.ref 190), some (.ref x1), some (.int x2), some (.int x3), d4, some (.long x5), d6, d7, d8, some (.int x9), d10, d11, d12]) (st1 := [.int (((Z143.1 x1 1) + (Z143.1 x1 4)) - (x9 / 10)), .int 7, .ref 191]) (M1 := mjTo Z143) (fun _ _ => rfl) ?_
    exact f74_look_j182_ok x1 x2 x3 x5 x9 7 (((Z143.1 x1 1) + (Z143.1 x1 4)) - (x9 / 10)) d4 d6 d7 d8 d10 d11 d12 Z143 v9 Z9 h
  · rw [if_neg hc145] at h
    refine pG_iff (t := 167) rfl rfl hc145 ?_
    refine pG_many 2 (pc1 := 182) (L1 := [some (.ref 190), some (.ref x1), some (.int x2), some (.int x3), d4, some (.long x5), d6, d7, d8, some (.int x9), d10, d11, d12]) (st1 := [.int 0, .int 7, .ref 191]) (M1 := mjTo Z143) (fun _ _ => rfl) ?_
    exact f74_look_j182_ok x1 x2 x3 x5 x9 7 0 d4 d6 d7 d8 d10 d11 d12 Z143 v9 Z9 h
def f74_look_j117 (x1 : Nat) (x2 : Int32) (x3 : Int32) (x5 : Int64) (x7 : Nat) (x9 : Int32) (x10 : Int32) (s1 : Int32) (s2 : Int32) (Z : mjZt) : Option (Unit × mjZt) :=
  if mjIn s1 11 = true then
  mjLet (zSi Z 191 (mjIx s1) s2) fun Z131 =>
  if mjCmp .eq x10 0 = true then
    if mjIs x7 211 0 = true then
    if mjIs x1 211 2 = true then
    mjBp (f8_runner x1 (Z131.1 x7 2) Z131) fun v136 =>
    if mjIs v136 211 7 = true then
    mjBp (f73_whereAt v136 x3 Z131) fun v140 =>
    f74_look_j149 x1 x2 x3 x5 x9 6 (x9 - v140) Z131
    else none
    else none
    else none
  else
    f74_look_j149 x1 x2 x3 x5 x9 6 0 Z131
  else none
theorem f74_look_j117_ok (x1 : Nat) (x2 : Int32) (x3 : Int32) (x5 : Int64) (x7 : Nat) (x9 : Int32) (x10 : Int32) (s1 : Int32) (s2 : Int32) (d4 d6 d8 d11 d12 : Option Value) (Z : mjZt) (v9 : Unit) (Z9 : mjZt) (h : f74_look_j117 x1 x2 x3 x5 x7 x9 x10 s1 s2 Z = some (v9, Z9)) : pG 73 117 [some (.ref 190), some (.ref x1), some (.int x2), some (.int x3), d4, some (.long x5), d6, some (.ref x7), d8, some (.int x9), some (.int x10), d11, d12] [.int s2, .int s1, .ref 191] (mjTo Z) (fun r M1 => r = none ∧ M1 = mjTo Z9) := by
  unfold f74_look_j117 at h
  have hk130 : mjIn s1 11 = true := by
    by_cases q9 : mjIn s1 11 = true
    · exact q9
    · rw [if_neg q9] at h; cases h
  rw [if_pos hk130] at h
  refine pG_ias rfl (by rfl) hk130 (?_ : pG 73 118 [some (.ref 190), some (.ref x1), some (.int x2), some (.int x3), d4, some (.long x5), d6, some (.ref x7), d8, some (.int x9), some (.int x10), d11, d12] [] (mjTo (zSi Z 191 (mjIx s1) s2)) _)
  rw [mjLet] at h
  generalize zSi Z 191 (mjIx s1) s2 = Z131 at h ⊢
  refine pG_many 1 (pc1 := 119) (L1 := [some (.ref 190), some (.ref x1), some (.int x2), some (.int x3), d4, some (.long x5), d6, some (.ref x7), d8, some (.int x9), some (.int x10), d11, d12]) (st1 := [.ref 190]) (M1 := mjTo Z131) (fun _ _ => rfl) ?_
  refine pG_getR (ci := 4) (f := 0) (b := 191) rfl rfl rfl (by rfl) (by decide) rfl ?_
  refine pG_many 2 (pc1 := 126) (L1 := [some (.ref 190), some (.ref x1), some (.int x2), some (.int x3), d4, some (.long x5), d6, some (.ref x7), d8, some (.int x9), some (.int x10), d11, d12]) (st1 := [.int x10, .int 6, .ref 191]) (M1 := mjTo Z131) (fun _ _ => rfl) ?_
  by_cases hc132 : mjCmp .eq x10 0 = true
  · rw [if_pos hc132] at h
    refine pG_ift (t := 133) rfl rfl hc132 ?_
    refine pG_many 3 (pc1 := 138) (L1 := [some (.ref 190), some (.ref x1), some (.int x2), some (.int x3), d4, some (.long x5), d6, some (.ref x7), d8, some (.int x9), some (.int x10), d11, d12]) (st1 := [.ref x7, .ref x1, .int x9, .int 6, .ref 191]) (M1 := mjTo Z131) (fun _ _ => rfl) ?_
    have hk133 : mjIs x7 211 0 = true := by
      by_cases q9 : mjIs x7 211 0 = true
      · exact q9
      · rw [if_neg q9] at h; cases h
    rw [if_pos hk133] at h
    refine pG_getI (ci := 0) (f := 2) rfl rfl (Or.inl rfl) hk133 (by decide) ?_
    have hk134 : mjIs x1 211 2 = true := by
      by_cases q9 : mjIs x1 211 2 = true
      · exact q9
      · rw [if_neg q9] at h; cases h
    rw [if_pos hk134] at h
    cases hq135 : f8_runner x1 (Z131.1 x7 2) Z131 with
    | none => rw [hq135] at h; cases h
    | some v136 =>
      rw [hq135, mjBp_some] at h
      refine pG_callV (k2 := 8) (As := [.ref x1, .int (Z131.1 x7 2)]) (rest := [.int x9, .int 6, .ref 191]) rfl rfl rfl rfl rfl (mjRcv_is hk134 (by decide)) (by decide) (by decide) (f8_runner_ok hq135) ?_
      rintro r9 M9 ⟨rfl, rfl⟩
      show pG 73 144 [some (.ref 190), some (.ref x1), some (.int x2), some (.int x3), d4, some (.long x5), d6, some (.ref x7), d8, some (.int x9), some (.int x10), d11, d12] [.ref v136, .int x9, .int 6, .ref 191] (mjTo Z131) _
      refine pG_many 1 (pc1 := 145) (L1 := [some (.ref 190), some (.ref x1), some (.int x2), some (.int x3), d4, some (.long x5), d6, some (.ref x7), d8, some (.int x9), some (.int x10), d11, d12]) (st1 := [.int x3, .ref v136, .int x9, .int 6, .ref 191]) (M1 := mjTo Z131) (fun _ _ => rfl) ?_
      have hk138 : mjIs v136 211 7 = true := by
        by_cases q9 : mjIs v136 211 7 = true
        · exact q9
        · rw [if_neg q9] at h; cases h
      rw [if_pos hk138] at h
      cases hq139 : f73_whereAt v136 x3 Z131 with
      | none => rw [hq139] at h; cases h
      | some v140 =>
        rw [hq139, mjBp_some] at h
        refine pG_callV (k2 := 72) (As := [.ref v136, .int x3]) (rest := [.int x9, .int 6, .ref 191]) rfl rfl rfl rfl rfl (mjRcv_is hk138 (by decide)) (by decide) (by decide) (f73_whereAt_ok hq139) ?_
        rintro r9 M9 ⟨rfl, rfl⟩
        show pG 73 148 [some (.ref 190), some (.ref x1), some (.int x2), some (.int x3), d4, some (.long x5), d6, some (.ref x7), d8, some (.int x9), some (.int x10), d11, d12] [.int v140, .int x9, .int 6, .ref 191] (mjTo Z131) _
        refine pG_many 1 (pc1 := 149) (L1 := [some (.ref 190), some (.ref x1), some (.int x2), some (.int x3), d4, some (.long x5), d6, some (.ref x7), d8, some (.int x9), some (.int x10), d11, d12]) (st1 := [.int (x9 - v140), .int 6, .ref 191]) (M1 := mjTo Z131) (fun _ _ => rfl) ?_
        exact f74_look_j149_ok x1 x2 x3 x5 x9 6 (x9 - v140) d4 d6 (some (.ref x7)) d8 (some (.int x10)) d11 d12 Z131 v9 Z9 h
  · rw [if_neg hc132] at h
    refine pG_iff (t := 133) rfl rfl hc132 ?_
    refine pG_many 2 (pc1 := 149) (L1 := [some (.ref 190), some (.ref x1), some (.int x2), some (.int x3), d4, some (.long x5), d6, some (.ref x7), d8, some (.int x9), some (.int x10), d11, d12]) (st1 := [.int 0, .int 6, .ref 191]) (M1 := mjTo Z131) (fun _ _ => rfl) ?_
    exact f74_look_j149_ok x1 x2 x3 x5 x9 6 0 d4 d6 (some (.ref x7)) d8 (some (.int x10)) d11 d12 Z131 v9 Z9 h
def f74_look_j40 (x1 : Nat) (x2 : Int32) (x3 : Int32) (x4 : Int32) (x5 : Int64) (x7 : Nat) (x8 : Nat) (x9 : Int32) (s0 : Int32) (Z : mjZt) : Option (Unit × mjZt) :=
  mjLet (zSi Z 191 0 x3) fun Z114 =>
  mjLet (zSi Z114 191 1 x4) fun Z115 =>
  if mjIs x8 211 7 = true then
  mjBp (f72_legAt x8 x3 Z115) fun v118 =>
  mjLet (zSi Z115 191 2 v118) fun Z120 =>
  mjLet (zSi Z120 191 3 (x9 / 10)) fun Z121 =>
  mjLet (zSi Z121 191 4 (Z121.1 x8 5)) fun Z122 =>
  if mjCmp .eq s0 0 = true then
    if mjIs x7 211 0 = true then
    if mjIs x1 211 2 = true then
    mjBp (f8_runner x1 (Z122.1 x7 2) Z122) fun v127 =>
    if mjIs v127 211 7 = true then
    f74_look_j117 x1 x2 x3 x5 x7 x9 s0 5 (Z122.1 v127 5) Z122
    else none
    else none
    else none
  else
    f74_look_j117 x1 x2 x3 x5 x7 x9 s0 5 0 Z122
  else none
theorem f74_look_j40_ok (x1 : Nat) (x2 : Int32) (x3 : Int32) (x4 : Int32) (x5 : Int64) (x7 : Nat) (x8 : Nat) (x9 : Int32) (s0 : Int32) (d6 d10 d11 d12 : Option Value) (Z : mjZt) (v9 : Unit) (Z9 : mjZt) (h : f74_look_j40 x1 x2 x3 x4 x5 x7 x8 x9 s0 Z = some (v9, Z9)) : pG 73 40 [some (.ref 190), some (.ref x1), some (.int x2), some (.int x3), some (.int x4), some (.long x5), d6, some (.ref x7), some (.ref x8), some (.int x9), d10, d11, d12] [.int s0] (mjTo Z) (fun r M1 => r = none ∧ M1 = mjTo Z9) := by
  unfold f74_look_j40 at h
  refine pG_many 2 (pc1 := 43) (L1 := [some (.ref 190), some (.ref x1), some (.int x2), some (.int x3), some (.int x4), some (.long x5), d6, some (.ref x7), some (.ref x8), some (.int x9), some (.int s0), d11, d12]) (st1 := [.ref 190]) (M1 := mjTo Z) (fun _ _ => rfl) ?_
  refine pG_getR (ci := 4) (f := 0) (b := 191) rfl rfl rfl (by rfl) (by decide) rfl ?_
  refine pG_many 2 (pc1 := 48) (L1 := [some (.ref 190), some (.ref x1), some (.int x2), some (.int x3), some (.int x4), some (.long x5), d6, some (.ref x7), some (.ref x8), some (.int x9), some (.int s0), d11, d12]) (st1 := [.int x3, .int 0, .ref 191]) (M1 := mjTo Z) (fun _ _ => rfl) ?_
  refine pG_ias rfl (by rfl) (by decide) (?_ : pG 73 49 [some (.ref 190), some (.ref x1), some (.int x2), some (.int x3), some (.int x4), some (.long x5), d6, some (.ref x7), some (.ref x8), some (.int x9), some (.int s0), d11, d12] [] (mjTo (zSi Z 191 0 x3)) _)
  rw [mjLet] at h
  generalize zSi Z 191 0 x3 = Z114 at h ⊢
  refine pG_many 1 (pc1 := 50) (L1 := [some (.ref 190), some (.ref x1), some (.int x2), some (.int x3), some (.int x4), some (.long x5), d6, some (.ref x7), some (.ref x8), some (.int x9), some (.int s0), d11, d12]) (st1 := [.ref 190]) (M1 := mjTo Z114) (fun _ _ => rfl) ?_
  refine pG_getR (ci := 4) (f := 0) (b := 191) rfl rfl rfl (by rfl) (by decide) rfl ?_
  refine pG_many 2 (pc1 := 56) (L1 := [some (.ref 190), some (.ref x1), some (.int x2), some (.int x3), some (.int x4), some (.long x5), d6, some (.ref x7), some (.ref x8), some (.int x9), some (.int s0), d11, d12]) (st1 := [.int x4, .int 1, .ref 191]) (M1 := mjTo Z114) (fun _ _ => rfl) ?_
  refine pG_ias rfl (by rfl) (by decide) (?_ : pG 73 57 [some (.ref 190), some (.ref x1), some (.int x2), some (.int x3), some (.int x4), some (.long x5), d6, some (.ref x7), some (.ref x8), some (.int x9), some (.int s0), d11, d12] [] (mjTo (zSi Z114 191 1 x4)) _)
  rw [mjLet] at h
  generalize zSi Z114 191 1 x4 = Z115 at h ⊢
  refine pG_many 1 (pc1 := 58) (L1 := [some (.ref 190), some (.ref x1), some (.int x2), some (.int x3), some (.int x4), some (.long x5), d6, some (.ref x7), some (.ref x8), some (.int x9), some (.int s0), d11, d12]) (st1 := [.ref 190]) (M1 := mjTo Z115) (fun _ _ => rfl) ?_
  refine pG_getR (ci := 4) (f := 0) (b := 191) rfl rfl rfl (by rfl) (by decide) rfl ?_
  refine pG_many 3 (pc1 := 65) (L1 := [some (.ref 190), some (.ref x1), some (.int x2), some (.int x3), some (.int x4), some (.long x5), d6, some (.ref x7), some (.ref x8), some (.int x9), some (.int s0), d11, d12]) (st1 := [.int x3, .ref x8, .int 2, .ref 191]) (M1 := mjTo Z115) (fun _ _ => rfl) ?_
  have hk116 : mjIs x8 211 7 = true := by
    by_cases q9 : mjIs x8 211 7 = true
    · exact q9
    · rw [if_neg q9] at h; cases h
  rw [if_pos hk116] at h
  cases hq117 : f72_legAt x8 x3 Z115 with
  | none => rw [hq117] at h; cases h
  | some v118 =>
    rw [hq117, mjBp_some] at h
    refine pG_callV (k2 := 71) (As := [.ref x8, .int x3]) (rest := [.int 2, .ref 191]) rfl rfl rfl rfl rfl (mjRcv_is hk116 (by decide)) (by decide) (by decide) (f72_legAt_ok hq117) ?_
    rintro r9 M9 ⟨rfl, rfl⟩
    show pG 73 68 [some (.ref 190), some (.ref x1), some (.int x2), some (.int x3), some (.int x4), some (.long x5), d6, some (.ref x7), some (.ref x8), some (.int x9), some (.int s0), d11, d12] [.int v118, .int 2, .ref 191] (mjTo Z115) _
    refine pG_ias rfl (by rfl) (by decide) (?_ : pG 73 69 [some (.ref 190), some (.ref x1), some (.int x2), some (.int x3), some (.int x4), some (.long x5), d6, some (.ref x7), some (.ref x8), some (.int x9), some (.int s0), d11, d12] [] (mjTo (zSi Z115 191 2 v118)) _)
    rw [mjLet] at h
    generalize zSi Z115 191 2 v118 = Z120 at h ⊢
    refine pG_many 1 (pc1 := 70) (L1 := [some (.ref 190), some (.ref x1), some (.int x2), some (.int x3), some (.int x4), some (.long x5), d6, some (.ref x7), some (.ref x8), some (.int x9), some (.int s0), d11, d12]) (st1 := [.ref 190]) (M1 := mjTo Z120) (fun _ _ => rfl) ?_
    refine pG_getR (ci := 4) (f := 0) (b := 191) rfl rfl rfl (by rfl) (by decide) rfl ?_
    refine pG_many 3 (pc1 := 78) (L1 := [some (.ref 190), some (.ref x1), some (.int x2), some (.int x3), some (.int x4), some (.long x5), d6, some (.ref x7), some (.ref x8), some (.int x9), some (.int s0), d11, d12]) (st1 := [.int 10, .int x9, .int 3, .ref 191]) (M1 := mjTo Z120) (fun _ _ => rfl) ?_
    refine pG_div rfl (by decide) ?_
    refine pG_ias rfl (by rfl) (by decide) (?_ : pG 73 80 [some (.ref 190), some (.ref x1), some (.int x2), some (.int x3), some (.int x4), some (.long x5), d6, some (.ref x7), some (.ref x8), some (.int x9), some (.int s0), d11, d12] [] (mjTo (zSi Z120 191 3 (x9 / 10))) _)
    rw [mjLet] at h
    generalize zSi Z120 191 3 (x9 / 10) = Z121 at h ⊢
    refine pG_many 1 (pc1 := 81) (L1 := [some (.ref 190), some (.ref x1), some (.int x2), some (.int x3), some (.int x4), some (.long x5), d6, some (.ref x7), some (.ref x8), some (.int x9), some (.int s0), d11, d12]) (st1 := [.ref 190]) (M1 := mjTo Z121) (fun _ _ => rfl) ?_
    refine pG_getR (ci := 4) (f := 0) (b := 191) rfl rfl rfl (by rfl) (by decide) rfl ?_
    refine pG_many 2 (pc1 := 87) (L1 := [some (.ref 190), some (.ref x1), some (.int x2), some (.int x3), some (.int x4), some (.long x5), d6, some (.ref x7), some (.ref x8), some (.int x9), some (.int s0), d11, d12]) (st1 := [.ref x8, .int 4, .ref 191]) (M1 := mjTo Z121) (fun _ _ => rfl) ?_
    refine pG_getI (ci := 7) (f := 5) rfl rfl (Or.inl rfl) hk116 (by decide) ?_
    refine pG_ias rfl (by rfl) (by decide) (?_ : pG 73 91 [some (.ref 190), some (.ref x1), some (.int x2), some (.int x3), some (.int x4), some (.long x5), d6, some (.ref x7), some (.ref x8), some (.int x9), some (.int s0), d11, d12] [] (mjTo (zSi Z121 191 4 (Z121.1 x8 5))) _)
    rw [mjLet] at h
    generalize zSi Z121 191 4 (Z121.1 x8 5) = Z122 at h ⊢
    refine pG_many 1 (pc1 := 92) (L1 := [some (.ref 190), some (.ref x1), some (.int x2), some (.int x3), some (.int x4), some (.long x5), d6, some (.ref x7), some (.ref x8), some (.int x9), some (.int s0), d11, d12]) (st1 := [.ref 190]) (M1 := mjTo Z122) (fun _ _ => rfl) ?_
    refine pG_getR (ci := 4) (f := 0) (b := 191) rfl rfl rfl (by rfl) (by decide) rfl ?_
    refine pG_many 2 (pc1 := 98) (L1 := [some (.ref 190), some (.ref x1), some (.int x2), some (.int x3), some (.int x4), some (.long x5), d6, some (.ref x7), some (.ref x8), some (.int x9), some (.int s0), d11, d12]) (st1 := [.int s0, .int 5, .ref 191]) (M1 := mjTo Z122) (fun _ _ => rfl) ?_
    by_cases hc123 : mjCmp .eq s0 0 = true
    · rw [if_pos hc123] at h
      refine pG_ift (t := 105) rfl rfl hc123 ?_
      refine pG_many 2 (pc1 := 108) (L1 := [some (.ref 190), some (.ref x1), some (.int x2), some (.int x3), some (.int x4), some (.long x5), d6, some (.ref x7), some (.ref x8), some (.int x9), some (.int s0), d11, d12]) (st1 := [.ref x7, .ref x1, .int 5, .ref 191]) (M1 := mjTo Z122) (fun _ _ => rfl) ?_
      have hk124 : mjIs x7 211 0 = true := by
        by_cases q9 : mjIs x7 211 0 = true
        · exact q9
        · rw [if_neg q9] at h; cases h
      rw [if_pos hk124] at h
      refine pG_getI (ci := 0) (f := 2) rfl rfl (Or.inl rfl) hk124 (by decide) ?_
      have hk125 : mjIs x1 211 2 = true := by
        by_cases q9 : mjIs x1 211 2 = true
        · exact q9
        · rw [if_neg q9] at h; cases h
      rw [if_pos hk125] at h
      cases hq126 : f8_runner x1 (Z122.1 x7 2) Z122 with
      | none => rw [hq126] at h; cases h
      | some v127 =>
        rw [hq126, mjBp_some] at h
        refine pG_callV (k2 := 8) (As := [.ref x1, .int (Z122.1 x7 2)]) (rest := [.int 5, .ref 191]) rfl rfl rfl rfl rfl (mjRcv_is hk125 (by decide)) (by decide) (by decide) (f8_runner_ok hq126) ?_
        rintro r9 M9 ⟨rfl, rfl⟩
        show pG 73 114 [some (.ref 190), some (.ref x1), some (.int x2), some (.int x3), some (.int x4), some (.long x5), d6, some (.ref x7), some (.ref x8), some (.int x9), some (.int s0), d11, d12] [.ref v127, .int 5, .ref 191] (mjTo Z122) _
        have hk129 : mjIs v127 211 7 = true := by
          by_cases q9 : mjIs v127 211 7 = true
          · exact q9
          · rw [if_neg q9] at h; cases h
        rw [if_pos hk129] at h
        refine pG_getI (ci := 7) (f := 5) rfl rfl (Or.inl rfl) hk129 (by decide) ?_
        exact f74_look_j117_ok x1 x2 x3 x5 x7 x9 s0 5 (Z122.1 v127 5) (some (.int x4)) d6 (some (.ref x8)) d11 d12 Z122 v9 Z9 h
    · rw [if_neg hc123] at h
      refine pG_iff (t := 105) rfl rfl hc123 ?_
      refine pG_many 2 (pc1 := 117) (L1 := [some (.ref 190), some (.ref x1), some (.int x2), some (.int x3), some (.int x4), some (.long x5), d6, some (.ref x7), some (.ref x8), some (.int x9), some (.int s0), d11, d12]) (st1 := [.int 0, .int 5, .ref 191]) (M1 := mjTo Z122) (fun _ _ => rfl) ?_
      exact f74_look_j117_ok x1 x2 x3 x5 x7 x9 s0 5 0 (some (.int x4)) d6 (some (.ref x8)) d11 d12 Z122 v9 Z9 h
def f74_look (p0 : Nat) (p1 : Int32) (p2 : Int32) (p3 : Int32) (p4 : Int64) (Z : mjZt) : Option (Unit × mjZt) :=
  if mjIs p0 211 2 = true then
  mjBp (f6_deed p0 p1 Z) fun v103 =>
  if mjIs v103 211 0 = true then
  mjBp (f8_runner p0 (Z.1 v103 1) Z) fun v107 =>
  if mjIs v107 211 7 = true then
  mjBp (f73_whereAt v107 p2 Z) fun v111 =>
  if mjCmp .ne (Z.1 v103 2) ((-1)) = true then
    f74_look_j40 p0 p1 p2 p3 p4 v103 v107 v111 0 Z
  else
    f74_look_j40 p0 p1 p2 p3 p4 v103 v107 v111 1 Z
  else none
  else none
  else none
theorem f74_look_ok {p0 : Nat} {p1 : Int32} {p2 : Int32} {p3 : Int32} {p4 : Int64} {Z : mjZt} {v9 : Unit} {Z9 : mjZt} (h : f74_look p0 p1 p2 p3 p4 Z = some (v9, Z9)) : pG 73 0 (mjEnt [.ref 190, .ref p0, .int p1, .int p2, .int p3, .long p4] (mjML 73)) [] (mjTo Z) (fun r M1 => r = none ∧ M1 = mjTo Z9) := by
  unfold f74_look at h
  show pG 73 0 [some (.ref 190), some (.ref p0), some (.int p1), some (.int p2), some (.int p3), some (.long p4), none, none, none, none, none, none, none] [] (mjTo Z) _
  refine pG_many 2 (pc1 := 2) (L1 := [some (.ref 190), some (.ref p0), some (.int p1), some (.int p2), some (.int p3), some (.long p4), none, none, none, none, none, none, none]) (st1 := [.int p1, .ref p0]) (M1 := mjTo Z) (fun _ _ => rfl) ?_
  have hk101 : mjIs p0 211 2 = true := by
    by_cases q9 : mjIs p0 211 2 = true
    · exact q9
    · rw [if_neg q9] at h; cases h
  rw [if_pos hk101] at h
  cases hq102 : f6_deed p0 p1 Z with
  | none => rw [hq102] at h; cases h
  | some v103 =>
    rw [hq102, mjBp_some] at h
    refine pG_callV (k2 := 6) (As := [.ref p0, .int p1]) (rest := []) rfl rfl rfl rfl rfl (mjRcv_is hk101 (by decide)) (by decide) (by decide) (f6_deed_ok hq102) ?_
    rintro r9 M9 ⟨rfl, rfl⟩
    show pG 73 5 [some (.ref 190), some (.ref p0), some (.int p1), some (.int p2), some (.int p3), some (.long p4), none, none, none, none, none, none, none] [.ref v103] (mjTo Z) _
    refine pG_many 3 (pc1 := 10) (L1 := [some (.ref 190), some (.ref p0), some (.int p1), some (.int p2), some (.int p3), some (.long p4), none, some (.ref v103), none, none, none, none, none]) (st1 := [.ref v103, .ref p0]) (M1 := mjTo Z) (fun _ _ => rfl) ?_
    have hk105 : mjIs v103 211 0 = true := by
      by_cases q9 : mjIs v103 211 0 = true
      · exact q9
      · rw [if_neg q9] at h; cases h
    rw [if_pos hk105] at h
    refine pG_getI (ci := 0) (f := 1) rfl rfl (Or.inl rfl) hk105 (by decide) ?_
    cases hq106 : f8_runner p0 (Z.1 v103 1) Z with
    | none => rw [hq106] at h; cases h
    | some v107 =>
      rw [hq106, mjBp_some] at h
      refine pG_callV (k2 := 8) (As := [.ref p0, .int (Z.1 v103 1)]) (rest := []) rfl rfl rfl rfl rfl (mjRcv_is hk101 (by decide)) (by decide) (by decide) (f8_runner_ok hq106) ?_
      rintro r9 M9 ⟨rfl, rfl⟩
      show pG 73 16 [some (.ref 190), some (.ref p0), some (.int p1), some (.int p2), some (.int p3), some (.long p4), none, some (.ref v103), none, none, none, none, none] [.ref v107] (mjTo Z) _
      refine pG_many 3 (pc1 := 21) (L1 := [some (.ref 190), some (.ref p0), some (.int p1), some (.int p2), some (.int p3), some (.long p4), none, some (.ref v103), some (.ref v107), none, none, none, none]) (st1 := [.int p2, .ref v107]) (M1 := mjTo Z) (fun _ _ => rfl) ?_
      have hk109 : mjIs v107 211 7 = true := by
        by_cases q9 : mjIs v107 211 7 = true
        · exact q9
        · rw [if_neg q9] at h; cases h
      rw [if_pos hk109] at h
      cases hq110 : f73_whereAt v107 p2 Z with
      | none => rw [hq110] at h; cases h
      | some v111 =>
        rw [hq110, mjBp_some] at h
        refine pG_callV (k2 := 72) (As := [.ref v107, .int p2]) (rest := []) rfl rfl rfl rfl rfl (mjRcv_is hk109 (by decide)) (by decide) (by decide) (f73_whereAt_ok hq110) ?_
        rintro r9 M9 ⟨rfl, rfl⟩
        show pG 73 24 [some (.ref 190), some (.ref p0), some (.int p1), some (.int p2), some (.int p3), some (.long p4), none, some (.ref v103), some (.ref v107), none, none, none, none] [.int v111] (mjTo Z) _
        refine pG_many 2 (pc1 := 28) (L1 := [some (.ref 190), some (.ref p0), some (.int p1), some (.int p2), some (.int p3), some (.long p4), none, some (.ref v103), some (.ref v107), some (.int v111), none, none, none]) (st1 := [.ref v103]) (M1 := mjTo Z) (fun _ _ => rfl) ?_
        refine pG_getI (ci := 0) (f := 2) rfl rfl (Or.inl rfl) hk105 (by decide) ?_
        refine pG_many 1 (pc1 := 32) (L1 := [some (.ref 190), some (.ref p0), some (.int p1), some (.int p2), some (.int p3), some (.long p4), none, some (.ref v103), some (.ref v107), some (.int v111), none, none, none]) (st1 := [.int ((-1)), .int (Z.1 v103 2)]) (M1 := mjTo Z) (fun _ _ => rfl) ?_
        by_cases hc113 : mjCmp .ne (Z.1 v103 2) ((-1)) = true
        · rw [if_pos hc113] at h
          refine pG_cmt (t := 39) rfl rfl hc113 ?_
          refine pG_many 1 (pc1 := 40) (L1 := [some (.ref 190), some (.ref p0), some (.int p1), some (.int p2), some (.int p3), some (.long p4), none, some (.ref v103), some (.ref v107), some (.int v111), none, none, none]) (st1 := [.int 0]) (M1 := mjTo Z) (fun _ _ => rfl) ?_
          exact f74_look_j40_ok p0 p1 p2 p3 p4 v103 v107 v111 0 none none none none Z v9 Z9 h
        · rw [if_neg hc113] at h
          refine pG_cmf (t := 39) rfl rfl hc113 ?_
          refine pG_many 2 (pc1 := 40) (L1 := [some (.ref 190), some (.ref p0), some (.int p1), some (.int p2), some (.int p3), some (.long p4), none, some (.ref v103), some (.ref v107), some (.int v111), none, none, none]) (st1 := [.int 1]) (M1 := mjTo Z) (fun _ _ => rfl) ?_
          exact f74_look_j40_ok p0 p1 p2 p3 p4 v103 v107 v111 1 none none none none Z v9 Z9 h
def f75_lookAt (p0 : Nat) (p1 : Int32) (Z : mjZt) : Option (Unit × mjZt) :=
  if mjIs p0 211 2 = true then
  mjBp (f6_deed p0 p1 Z) fun v103 =>
  if mjIs v103 211 0 = true then
  mjBd (f74_look p0 p1 (Z.1 v103 3) (Z.1 v103 4) (Z.2.1 p0 11) Z) fun _ Z108 =>
  some ((), Z108)
  else none
  else none
theorem f75_lookAt_ok {p0 : Nat} {p1 : Int32} {Z : mjZt} {v9 : Unit} {Z9 : mjZt} (h : f75_lookAt p0 p1 Z = some (v9, Z9)) : pG 74 0 (mjEnt [.ref 190, .ref p0, .int p1] (mjML 74)) [] (mjTo Z) (fun r M1 => r = none ∧ M1 = mjTo Z9) := by
  unfold f75_lookAt at h
  show pG 74 0 [some (.ref 190), some (.ref p0), some (.int p1), none] [] (mjTo Z) _
  refine pG_many 2 (pc1 := 2) (L1 := [some (.ref 190), some (.ref p0), some (.int p1), none]) (st1 := [.int p1, .ref p0]) (M1 := mjTo Z) (fun _ _ => rfl) ?_
  have hk101 : mjIs p0 211 2 = true := by
    by_cases q9 : mjIs p0 211 2 = true
    · exact q9
    · rw [if_neg q9] at h; cases h
  rw [if_pos hk101] at h
  cases hq102 : f6_deed p0 p1 Z with
  | none => rw [hq102] at h; cases h
  | some v103 =>
    rw [hq102, mjBp_some] at h
    refine pG_callV (k2 := 6) (As := [.ref p0, .int p1]) (rest := []) rfl rfl rfl rfl rfl (mjRcv_is hk101 (by decide)) (by decide) (by decide) (f6_deed_ok hq102) ?_
    rintro r9 M9 ⟨rfl, rfl⟩
    show pG 74 5 [some (.ref 190), some (.ref p0), some (.int p1), none] [.ref v103] (mjTo Z) _
    refine pG_many 5 (pc1 := 10) (L1 := [some (.ref 190), some (.ref p0), some (.int p1), some (.ref v103)]) (st1 := [.ref v103, .int p1, .ref p0, .ref 190]) (M1 := mjTo Z) (fun _ _ => rfl) ?_
    have hk105 : mjIs v103 211 0 = true := by
      by_cases q9 : mjIs v103 211 0 = true
      · exact q9
      · rw [if_neg q9] at h; cases h
    rw [if_pos hk105] at h
    refine pG_getI (ci := 0) (f := 3) rfl rfl (Or.inl rfl) hk105 (by decide) ?_
    refine pG_many 1 (pc1 := 14) (L1 := [some (.ref 190), some (.ref p0), some (.int p1), some (.ref v103)]) (st1 := [.ref v103, .int (Z.1 v103 3), .int p1, .ref p0, .ref 190]) (M1 := mjTo Z) (fun _ _ => rfl) ?_
    refine pG_getI (ci := 0) (f := 4) rfl rfl (Or.inl rfl) hk105 (by decide) ?_
    refine pG_many 1 (pc1 := 18) (L1 := [some (.ref 190), some (.ref p0), some (.int p1), some (.ref v103)]) (st1 := [.ref p0, .int (Z.1 v103 4), .int (Z.1 v103 3), .int p1, .ref p0, .ref 190]) (M1 := mjTo Z) (fun _ _ => rfl) ?_
    refine pG_getL (ci := 2) (f := 11) rfl rfl rfl hk101 (by decide) ?_
    cases hq106 : f74_look p0 p1 (Z.1 v103 3) (Z.1 v103 4) (Z.2.1 p0 11) Z with
    | none => rw [hq106] at h; cases h
    | some w =>
      obtain ⟨v107, Z108⟩ := w
      rw [hq106, mjBd_some] at h
      refine pG_callV (k2 := 73) (As := [.ref 190, .ref p0, .int p1, .int (Z.1 v103 3), .int (Z.1 v103 4), .long (Z.2.1 p0 11)]) (rest := []) rfl rfl rfl rfl rfl (by rfl) (by decide) (by decide) (f74_look_ok hq106) ?_
      rintro r9 M9 ⟨rfl, rfl⟩
      show pG 74 24 [some (.ref 190), some (.ref p0), some (.int p1), some (.ref v103)] [] (mjTo Z108) _
      simp only [Option.some.injEq, Prod.mk.injEq] at h
      obtain ⟨-, rfl⟩ := h
      exact pG_ret (r := none) rfl ⟨rfl, rfl⟩
def f76_condition (p0 : Int32) (p1 : Int32) (Z : mjZt) : Option Int32 :=
  some ((p0 * 2) + p1)
theorem f76_condition_ok {p0 : Int32} {p1 : Int32} {Z : mjZt} {v9 : Int32} (h : f76_condition p0 p1 Z = some v9) : pG 75 0 (mjEnt [.int p0, .int p1] (mjML 75)) [] (mjTo Z) (fun r M1 => r = some (.int v9) ∧ M1 = mjTo Z) := by
  unfold f76_condition at h
  show pG 75 0 [some (.int p0), some (.int p1)] [] (mjTo Z) _
  refine pG_many 5 (pc1 := 5) (L1 := [some (.int p0), some (.int p1)]) (st1 := [.int ((p0 * 2) + p1)]) (M1 := mjTo Z) (fun _ _ => rfl) ?_
  simp only [Option.some.injEq] at h
  subst h
  exact pG_ret (r := some (.int ((p0 * 2) + p1))) rfl ⟨rfl, rfl⟩
def f77_fromOf (a0 : Nat) (p0 : Int32) (p1 : Int32) (Z : mjZt) : Option Int32 :=
  if mjIs a0 211 8 = true then
  mjBp (f76_condition p0 p1 Z) fun v103 =>
  mjBp (f5_at (a0 + 4) v103 Z) fun v106 =>
  some v106
  else none
theorem f77_fromOf_ok {a0 : Nat} {p0 : Int32} {p1 : Int32} {Z : mjZt} {v9 : Int32} (h : f77_fromOf a0 p0 p1 Z = some v9) : pG 76 0 (mjEnt [.ref a0, .int p0, .int p1] (mjML 76)) [] (mjTo Z) (fun r M1 => r = some (.int v9) ∧ M1 = mjTo Z) := by
  unfold f77_fromOf at h
  show pG 76 0 [some (.ref a0), some (.int p0), some (.int p1)] [] (mjTo Z) _
  refine pG_many 1 (pc1 := 1) (L1 := [some (.ref a0), some (.int p0), some (.int p1)]) (st1 := [.ref a0]) (M1 := mjTo Z) (fun _ _ => rfl) ?_
  have hk101 : mjIs a0 211 8 = true := by
    by_cases q9 : mjIs a0 211 8 = true
    · exact q9
    · rw [if_neg q9] at h; cases h
  rw [if_pos hk101] at h
  refine pG_getR (ci := 8) (f := 3) (b := a0 + 4) rfl rfl rfl hk101 (by decide) (mjRc8_3 hk101) ?_
  refine pG_many 2 (pc1 := 6) (L1 := [some (.ref a0), some (.int p0), some (.int p1)]) (st1 := [.int p1, .int p0, .ref (a0 + 4)]) (M1 := mjTo Z) (fun _ _ => rfl) ?_
  cases hq102 : f76_condition p0 p1 Z with
  | none => rw [hq102] at h; cases h
  | some v103 =>
    rw [hq102, mjBp_some] at h
    refine pG_call (k2 := 75) (As := [.int p0, .int p1]) (rest := [.ref (a0 + 4)]) (fun _ _ => rfl) (by decide) (by decide) (f76_condition_ok hq102) ?_
    rintro r9 M9 ⟨rfl, rfl⟩
    show pG 76 9 [some (.ref a0), some (.int p0), some (.int p1)] [.int v103, .ref (a0 + 4)] (mjTo Z) _
    cases hq105 : f5_at (a0 + 4) v103 Z with
    | none => rw [hq105] at h; cases h
    | some v106 =>
      rw [hq105, mjBp_some] at h
      refine pG_call (k2 := 5) (As := [.ref (a0 + 4), .int v103]) (rest := []) (fun _ _ => rfl) (by decide) (by decide) (f5_at_ok hq105) ?_
      rintro r9 M9 ⟨rfl, rfl⟩
      show pG 76 12 [some (.ref a0), some (.int p0), some (.int p1)] [.int v106] (mjTo Z) _
      simp only [Option.some.injEq] at h
      subst h
      exact pG_ret (r := some (.int v106)) rfl ⟨rfl, rfl⟩
def f78_toOf (a0 : Nat) (p0 : Int32) (p1 : Int32) (Z : mjZt) : Option Int32 :=
  if mjIs a0 211 8 = true then
  mjBp (f76_condition p0 p1 Z) fun v103 =>
  mjBp (f5_at (a0 + 5) v103 Z) fun v106 =>
  some (mjMin v106 700)
  else none
theorem f78_toOf_ok {a0 : Nat} {p0 : Int32} {p1 : Int32} {Z : mjZt} {v9 : Int32} (h : f78_toOf a0 p0 p1 Z = some v9) : pG 77 0 (mjEnt [.ref a0, .int p0, .int p1] (mjML 77)) [] (mjTo Z) (fun r M1 => r = some (.int v9) ∧ M1 = mjTo Z) := by
  unfold f78_toOf at h
  show pG 77 0 [some (.ref a0), some (.int p0), some (.int p1)] [] (mjTo Z) _
  refine pG_many 1 (pc1 := 1) (L1 := [some (.ref a0), some (.int p0), some (.int p1)]) (st1 := [.ref a0]) (M1 := mjTo Z) (fun _ _ => rfl) ?_
  have hk101 : mjIs a0 211 8 = true := by
    by_cases q9 : mjIs a0 211 8 = true
    · exact q9
    · rw [if_neg q9] at h; cases h
  rw [if_pos hk101] at h
  refine pG_getR (ci := 8) (f := 4) (b := a0 + 5) rfl rfl rfl hk101 (by decide) (mjRc8_4 hk101) ?_
  refine pG_many 2 (pc1 := 6) (L1 := [some (.ref a0), some (.int p0), some (.int p1)]) (st1 := [.int p1, .int p0, .ref (a0 + 5)]) (M1 := mjTo Z) (fun _ _ => rfl) ?_
  cases hq102 : f76_condition p0 p1 Z with
  | none => rw [hq102] at h; cases h
  | some v103 =>
    rw [hq102, mjBp_some] at h
    refine pG_call (k2 := 75) (As := [.int p0, .int p1]) (rest := [.ref (a0 + 5)]) (fun _ _ => rfl) (by decide) (by decide) (f76_condition_ok hq102) ?_
    rintro r9 M9 ⟨rfl, rfl⟩
    show pG 77 9 [some (.ref a0), some (.int p0), some (.int p1)] [.int v103, .ref (a0 + 5)] (mjTo Z) _
    cases hq105 : f5_at (a0 + 5) v103 Z with
    | none => rw [hq105] at h; cases h
    | some v106 =>
      rw [hq105, mjBp_some] at h
      refine pG_call (k2 := 5) (As := [.ref (a0 + 5), .int v103]) (rest := []) (fun _ _ => rfl) (by decide) (by decide) (f5_at_ok hq105) ?_
      rintro r9 M9 ⟨rfl, rfl⟩
      show pG 77 12 [some (.ref a0), some (.int p0), some (.int p1)] [.int v106] (mjTo Z) _
      refine pG_many 1 (pc1 := 15) (L1 := [some (.ref a0), some (.int p0), some (.int p1)]) (st1 := [.int 700, .int v106]) (M1 := mjTo Z) (fun _ _ => rfl) ?_
      refine pG_prim (v := .int (mjMin v106 700)) (fun _ _ => rfl) (by decide) rfl ?_
      simp only [Option.some.injEq] at h
      subst h
      exact pG_ret (r := some (.int (mjMin v106 700))) rfl ⟨rfl, rfl⟩
def f79_opAt (a0 : Nat) (p0 : Int32) (Z : mjZt) : Option Int32 :=
  if mjIs a0 211 8 = true then
  mjBp (f5_at (a0 + 1) p0 Z) fun v103 =>
  some v103
  else none
theorem f79_opAt_ok {a0 : Nat} {p0 : Int32} {Z : mjZt} {v9 : Int32} (h : f79_opAt a0 p0 Z = some v9) : pG 78 0 (mjEnt [.ref a0, .int p0] (mjML 78)) [] (mjTo Z) (fun r M1 => r = some (.int v9) ∧ M1 = mjTo Z) := by
  unfold f79_opAt at h
  show pG 78 0 [some (.ref a0), some (.int p0)] [] (mjTo Z) _
  refine pG_many 1 (pc1 := 1) (L1 := [some (.ref a0), some (.int p0)]) (st1 := [.ref a0]) (M1 := mjTo Z) (fun _ _ => rfl) ?_
  have hk101 : mjIs a0 211 8 = true := by
    by_cases q9 : mjIs a0 211 8 = true
    · exact q9
    · rw [if_neg q9] at h; cases h
  rw [if_pos hk101] at h
  refine pG_getR (ci := 8) (f := 0) (b := a0 + 1) rfl rfl rfl hk101 (by decide) (mjRc8_0 hk101) ?_
  refine pG_many 1 (pc1 := 5) (L1 := [some (.ref a0), some (.int p0)]) (st1 := [.int p0, .ref (a0 + 1)]) (M1 := mjTo Z) (fun _ _ => rfl) ?_
  cases hq102 : f5_at (a0 + 1) p0 Z with
  | none => rw [hq102] at h; cases h
  | some v103 =>
    rw [hq102, mjBp_some] at h
    refine pG_call (k2 := 5) (As := [.ref (a0 + 1), .int p0]) (rest := []) (fun _ _ => rfl) (by decide) (by decide) (f5_at_ok hq102) ?_
    rintro r9 M9 ⟨rfl, rfl⟩
    show pG 78 8 [some (.ref a0), some (.int p0)] [.int v103] (mjTo Z) _
    simp only [Option.some.injEq] at h
    subst h
    exact pG_ret (r := some (.int v103)) rfl ⟨rfl, rfl⟩
def f80_numberAt (a0 : Nat) (p0 : Int32) (Z : mjZt) : Option Int32 :=
  if mjIs a0 211 8 = true then
  mjBp (f5_at (a0 + 2) p0 Z) fun v103 =>
  some v103
  else none
theorem f80_numberAt_ok {a0 : Nat} {p0 : Int32} {Z : mjZt} {v9 : Int32} (h : f80_numberAt a0 p0 Z = some v9) : pG 79 0 (mjEnt [.ref a0, .int p0] (mjML 79)) [] (mjTo Z) (fun r M1 => r = some (.int v9) ∧ M1 = mjTo Z) := by
  unfold f80_numberAt at h
  show pG 79 0 [some (.ref a0), some (.int p0)] [] (mjTo Z) _
  refine pG_many 1 (pc1 := 1) (L1 := [some (.ref a0), some (.int p0)]) (st1 := [.ref a0]) (M1 := mjTo Z) (fun _ _ => rfl) ?_
  have hk101 : mjIs a0 211 8 = true := by
    by_cases q9 : mjIs a0 211 8 = true
    · exact q9
    · rw [if_neg q9] at h; cases h
  rw [if_pos hk101] at h
  refine pG_getR (ci := 8) (f := 1) (b := a0 + 2) rfl rfl rfl hk101 (by decide) (mjRc8_1 hk101) ?_
  refine pG_many 1 (pc1 := 5) (L1 := [some (.ref a0), some (.int p0)]) (st1 := [.int p0, .ref (a0 + 2)]) (M1 := mjTo Z) (fun _ _ => rfl) ?_
  cases hq102 : f5_at (a0 + 2) p0 Z with
  | none => rw [hq102] at h; cases h
  | some v103 =>
    rw [hq102, mjBp_some] at h
    refine pG_call (k2 := 5) (As := [.ref (a0 + 2), .int p0]) (rest := []) (fun _ _ => rfl) (by decide) (by decide) (f5_at_ok hq102) ?_
    rintro r9 M9 ⟨rfl, rfl⟩
    show pG 79 8 [some (.ref a0), some (.int p0)] [.int v103] (mjTo Z) _
    simp only [Option.some.injEq] at h
    subst h
    exact pG_ret (r := some (.int v103)) rfl ⟨rfl, rfl⟩
def f81_leftOf (a0 : Nat) (p0 : Int32) (Z : mjZt) : Option Int32 :=
  if mjIs a0 211 8 = true then
  mjBp (f5_at (a0 + 3) p0 Z) fun v103 =>
  some v103
  else none
theorem f81_leftOf_ok {a0 : Nat} {p0 : Int32} {Z : mjZt} {v9 : Int32} (h : f81_leftOf a0 p0 Z = some v9) : pG 80 0 (mjEnt [.ref a0, .int p0] (mjML 80)) [] (mjTo Z) (fun r M1 => r = some (.int v9) ∧ M1 = mjTo Z) := by
  unfold f81_leftOf at h
  show pG 80 0 [some (.ref a0), some (.int p0)] [] (mjTo Z) _
  refine pG_many 1 (pc1 := 1) (L1 := [some (.ref a0), some (.int p0)]) (st1 := [.ref a0]) (M1 := mjTo Z) (fun _ _ => rfl) ?_
  have hk101 : mjIs a0 211 8 = true := by
    by_cases q9 : mjIs a0 211 8 = true
    · exact q9
    · rw [if_neg q9] at h; cases h
  rw [if_pos hk101] at h
  refine pG_getR (ci := 8) (f := 2) (b := a0 + 3) rfl rfl rfl hk101 (by decide) (mjRc8_2 hk101) ?_
  refine pG_many 1 (pc1 := 5) (L1 := [some (.ref a0), some (.int p0)]) (st1 := [.int p0, .ref (a0 + 3)]) (M1 := mjTo Z) (fun _ _ => rfl) ?_
  cases hq102 : f5_at (a0 + 3) p0 Z with
  | none => rw [hq102] at h; cases h
  | some v103 =>
    rw [hq102, mjBp_some] at h
    refine pG_call (k2 := 5) (As := [.ref (a0 + 3), .int p0]) (rest := []) (fun _ _ => rfl) (by decide) (by decide) (f5_at_ok hq102) ?_
    rintro r9 M9 ⟨rfl, rfl⟩
    show pG 80 8 [some (.ref a0), some (.int p0)] [.int v103] (mjTo Z) _
    simp only [Option.some.injEq] at h
    subst h
    exact pG_ret (r := some (.int v103)) rfl ⟨rfl, rfl⟩
def f82_within32 (p0 : Int64) (Z : mjZt) : Option Int64 :=
  if mjCmp .ne (lg_cmp p0 (Int32.toInt64 (Int64.toInt32 p0))) 0 = true then
    some ((-9223372036854775808))
  else
    some p0
theorem f82_within32_ok {p0 : Int64} {Z : mjZt} {v9 : Int64} (h : f82_within32 p0 Z = some v9) : pG 81 0 (mjEnt [.long p0] (mjML 81)) [] (mjTo Z) (fun r M1 => r = some (.long v9) ∧ M1 = mjTo Z) := by
  unfold f82_within32 at h
  show pG 81 0 [some (.long p0), none] [] (mjTo Z) _
  refine pG_many 5 (pc1 := 5) (L1 := [some (.long p0), none]) (st1 := [.int (lg_cmp p0 (Int32.toInt64 (Int64.toInt32 p0)))]) (M1 := mjTo Z) (fun _ _ => rfl) ?_
  by_cases hc101 : mjCmp .ne (lg_cmp p0 (Int32.toInt64 (Int64.toInt32 p0))) 0 = true
  · rw [if_pos hc101] at h
    refine pG_ift (t := 12) rfl rfl hc101 ?_
    refine pG_many 1 (pc1 := 15) (L1 := [some (.long p0), none]) (st1 := [.long ((-9223372036854775808))]) (M1 := mjTo Z) (fun _ _ => rfl) ?_
    simp only [Option.some.injEq] at h
    subst h
    exact pG_ret (r := some (.long ((-9223372036854775808)))) rfl ⟨rfl, rfl⟩
  · rw [if_neg hc101] at h
    refine pG_iff (t := 12) rfl rfl hc101 ?_
    refine pG_many 2 (pc1 := 15) (L1 := [some (.long p0), none]) (st1 := [.long p0]) (M1 := mjTo Z) (fun _ _ => rfl) ?_
    simp only [Option.some.injEq] at h
    subst h
    exact pG_ret (r := some (.long p0)) rfl ⟨rfl, rfl⟩
def f83_reckon (p0 : Int32) (p1 : Int64) (p2 : Int64) (Z : mjZt) : Option Int64 :=
  if (p0).toInt < 7 ∨ 11 < (p0).toInt then
    mjBp (f82_within32 (p1 * p2) Z) fun v103 =>
    some v103
  else if ((p0).toInt - 7).toNat = 0 then
    if mjCmp .ge (lg_cmp p1 p2) 0 = true then
      some 0
    else
      some 1
  else if ((p0).toInt - 7).toNat = 1 then
    if mjCmp .le (lg_cmp p1 p2) 0 = true then
      some 0
    else
      some 1
  else if ((p0).toInt - 7).toNat = 2 then
    if mjCmp .ne (lg_cmp p1 p2) 0 = true then
      some 0
    else
      some 1
  else if ((p0).toInt - 7).toNat = 3 then
    mjBp (f82_within32 (p1 + p2) Z) fun v113 =>
    some v113
  else if ((p0).toInt - 7).toNat = 4 then
    mjBp (f82_within32 (p1 - p2) Z) fun v117 =>
    some v117
  else none
theorem f83_reckon_ok {p0 : Int32} {p1 : Int64} {p2 : Int64} {Z : mjZt} {v9 : Int64} (h : f83_reckon p0 p1 p2 Z = some v9) : pG 82 0 (mjEnt [.int p0, .long p1, .long p2] (mjML 82)) [] (mjTo Z) (fun r M1 => r = some (.long v9) ∧ M1 = mjTo Z) := by
  unfold f83_reckon at h
  show pG 82 0 [some (.int p0), some (.long p1), none, some (.long p2), none] [] (mjTo Z) _
  refine pG_many 1 (pc1 := 1) (L1 := [some (.int p0), some (.long p1), none, some (.long p2), none]) (st1 := [.int p0]) (M1 := mjTo Z) (fun _ _ => rfl) ?_
  by_cases hs101 : (p0).toInt < 7 ∨ 11 < (p0).toInt
  · rw [if_pos hs101] at h
    refine pG_tso (t := 86) rfl hs101 rfl ?_
    refine pG_many 3 (pc1 := 89) (L1 := [some (.int p0), some (.long p1), none, some (.long p2), none]) (st1 := [.long (p1 * p2)]) (M1 := mjTo Z) (fun _ _ => rfl) ?_
    cases hq102 : f82_within32 (p1 * p2) Z with
    | none => rw [hq102] at h; cases h
    | some v103 =>
      rw [hq102, mjBp_some] at h
      refine pG_call (k2 := 81) (As := [.long (p1 * p2)]) (rest := []) (fun _ _ => rfl) (by decide) (by decide) (f82_within32_ok hq102) ?_
      rintro r9 M9 ⟨rfl, rfl⟩
      show pG 82 92 [some (.int p0), some (.long p1), none, some (.long p2), none] [.long v103] (mjTo Z) _
      simp only [Option.some.injEq] at h
      subst h
      exact pG_ret (r := some (.long v103)) rfl ⟨rfl, rfl⟩
  rw [if_neg hs101] at h
  by_cases hs105 : ((p0).toInt - 7).toNat = 0
  · rw [if_pos hs105] at h
    refine pG_tsi (t := 36) (j := 0) (o := 35) rfl hs101 hs105 rfl rfl ?_
    refine pG_many 3 (pc1 := 39) (L1 := [some (.int p0), some (.long p1), none, some (.long p2), none]) (st1 := [.int (lg_cmp p1 p2)]) (M1 := mjTo Z) (fun _ _ => rfl) ?_
    by_cases hc106 : mjCmp .ge (lg_cmp p1 p2) 0 = true
    · rw [if_pos hc106] at h
      refine pG_ift (t := 46) rfl rfl hc106 ?_
      refine pG_many 1 (pc1 := 47) (L1 := [some (.int p0), some (.long p1), none, some (.long p2), none]) (st1 := [.long 0]) (M1 := mjTo Z) (fun _ _ => rfl) ?_
      simp only [Option.some.injEq] at h
      subst h
      exact pG_ret (r := some (.long 0)) rfl ⟨rfl, rfl⟩
    · rw [if_neg hc106] at h
      refine pG_iff (t := 46) rfl rfl hc106 ?_
      refine pG_many 2 (pc1 := 47) (L1 := [some (.int p0), some (.long p1), none, some (.long p2), none]) (st1 := [.long 1]) (M1 := mjTo Z) (fun _ _ => rfl) ?_
      simp only [Option.some.injEq] at h
      subst h
      exact pG_ret (r := some (.long 1)) rfl ⟨rfl, rfl⟩
  rw [if_neg hs105] at h
  by_cases hs107 : ((p0).toInt - 7).toNat = 1
  · rw [if_pos hs107] at h
    refine pG_tsi (t := 48) (j := 1) (o := 47) rfl hs101 hs107 rfl rfl ?_
    refine pG_many 3 (pc1 := 51) (L1 := [some (.int p0), some (.long p1), none, some (.long p2), none]) (st1 := [.int (lg_cmp p1 p2)]) (M1 := mjTo Z) (fun _ _ => rfl) ?_
    by_cases hc108 : mjCmp .le (lg_cmp p1 p2) 0 = true
    · rw [if_pos hc108] at h
      refine pG_ift (t := 58) rfl rfl hc108 ?_
      refine pG_many 1 (pc1 := 59) (L1 := [some (.int p0), some (.long p1), none, some (.long p2), none]) (st1 := [.long 0]) (M1 := mjTo Z) (fun _ _ => rfl) ?_
      simp only [Option.some.injEq] at h
      subst h
      exact pG_ret (r := some (.long 0)) rfl ⟨rfl, rfl⟩
    · rw [if_neg hc108] at h
      refine pG_iff (t := 58) rfl rfl hc108 ?_
      refine pG_many 2 (pc1 := 59) (L1 := [some (.int p0), some (.long p1), none, some (.long p2), none]) (st1 := [.long 1]) (M1 := mjTo Z) (fun _ _ => rfl) ?_
      simp only [Option.some.injEq] at h
      subst h
      exact pG_ret (r := some (.long 1)) rfl ⟨rfl, rfl⟩
  rw [if_neg hs107] at h
  by_cases hs109 : ((p0).toInt - 7).toNat = 2
  · rw [if_pos hs109] at h
    refine pG_tsi (t := 60) (j := 2) (o := 59) rfl hs101 hs109 rfl rfl ?_
    refine pG_many 3 (pc1 := 63) (L1 := [some (.int p0), some (.long p1), none, some (.long p2), none]) (st1 := [.int (lg_cmp p1 p2)]) (M1 := mjTo Z) (fun _ _ => rfl) ?_
    by_cases hc110 : mjCmp .ne (lg_cmp p1 p2) 0 = true
    · rw [if_pos hc110] at h
      refine pG_ift (t := 70) rfl rfl hc110 ?_
      refine pG_many 1 (pc1 := 71) (L1 := [some (.int p0), some (.long p1), none, some (.long p2), none]) (st1 := [.long 0]) (M1 := mjTo Z) (fun _ _ => rfl) ?_
      simp only [Option.some.injEq] at h
      subst h
      exact pG_ret (r := some (.long 0)) rfl ⟨rfl, rfl⟩
    · rw [if_neg hc110] at h
      refine pG_iff (t := 70) rfl rfl hc110 ?_
      refine pG_many 2 (pc1 := 71) (L1 := [some (.int p0), some (.long p1), none, some (.long p2), none]) (st1 := [.long 1]) (M1 := mjTo Z) (fun _ _ => rfl) ?_
      simp only [Option.some.injEq] at h
      subst h
      exact pG_ret (r := some (.long 1)) rfl ⟨rfl, rfl⟩
  rw [if_neg hs109] at h
  by_cases hs111 : ((p0).toInt - 7).toNat = 3
  · rw [if_pos hs111] at h
    refine pG_tsi (t := 72) (j := 3) (o := 71) rfl hs101 hs111 rfl rfl ?_
    refine pG_many 3 (pc1 := 75) (L1 := [some (.int p0), some (.long p1), none, some (.long p2), none]) (st1 := [.long (p1 + p2)]) (M1 := mjTo Z) (fun _ _ => rfl) ?_
    cases hq112 : f82_within32 (p1 + p2) Z with
    | none => rw [hq112] at h; cases h
    | some v113 =>
      rw [hq112, mjBp_some] at h
      refine pG_call (k2 := 81) (As := [.long (p1 + p2)]) (rest := []) (fun _ _ => rfl) (by decide) (by decide) (f82_within32_ok hq112) ?_
      rintro r9 M9 ⟨rfl, rfl⟩
      show pG 82 78 [some (.int p0), some (.long p1), none, some (.long p2), none] [.long v113] (mjTo Z) _
      simp only [Option.some.injEq] at h
      subst h
      exact pG_ret (r := some (.long v113)) rfl ⟨rfl, rfl⟩
  rw [if_neg hs111] at h
  by_cases hs115 : ((p0).toInt - 7).toNat = 4
  · rw [if_pos hs115] at h
    refine pG_tsi (t := 79) (j := 4) (o := 78) rfl hs101 hs115 rfl rfl ?_
    refine pG_many 3 (pc1 := 82) (L1 := [some (.int p0), some (.long p1), none, some (.long p2), none]) (st1 := [.long (p1 - p2)]) (M1 := mjTo Z) (fun _ _ => rfl) ?_
    cases hq116 : f82_within32 (p1 - p2) Z with
    | none => rw [hq116] at h; cases h
    | some v117 =>
      rw [hq116, mjBp_some] at h
      refine pG_call (k2 := 81) (As := [.long (p1 - p2)]) (rest := []) (fun _ _ => rfl) (by decide) (by decide) (f82_within32_ok hq116) ?_
      rintro r9 M9 ⟨rfl, rfl⟩
      show pG 82 85 [some (.int p0), some (.long p1), none, some (.long p2), none] [.long v117] (mjTo Z) _
      simp only [Option.some.injEq] at h
      subst h
      exact pG_ret (r := some (.long v117)) rfl ⟨rfl, rfl⟩
  rw [if_neg hs115] at h
  cases h
def f84_work (p0 : Nat) (p1 : Int32) (Z : mjZt) : Option Int64 :=
  if mjIs p0 211 8 = true then
  mjBp (f79_opAt p0 p1 Z) fun v103 =>
  if mjCmp .ne v103 0 = true then
    if mjCmp .ne v103 1 = true then
      mjBp (f21_longAt 192 (p1 - 1) Z) fun v108 =>
      if mjCmp .ne v103 6 = true then
        mjBp (f81_leftOf p0 p1 Z) fun v112 =>
        mjBp (f21_longAt 192 v112 Z) fun v115 =>
        if mjCmp .ne v103 5 = true then
          if mjCmp .ne v103 4 = true then
            if mjCmp .eq (lg_cmp v115 ((-9223372036854775808))) 0 = true then
              mjBp (f58_isComparison v103 Z) fun v121 =>
              if mjCmp .eq v121 0 = true then
                some ((-9223372036854775808))
              else
                some 0
            else
              if mjCmp .ne (lg_cmp v108 ((-9223372036854775808))) 0 = true then
                mjBp (f83_reckon v103 v115 v108 Z) fun v126 =>
                some v126
              else
                mjBp (f58_isComparison v103 Z) fun v129 =>
                if mjCmp .eq v129 0 = true then
                  some ((-9223372036854775808))
                else
                  some 0
          else
            some (v115 ||| v108)
        else
          some (v115 &&& v108)
      else
        some (1 - v108)
    else
      mjBp (f80_numberAt p0 p1 Z) fun v133 =>
      mjBp (f5_at 191 v133 Z) fun v136 =>
      some (Int32.toInt64 v136)
  else
    mjBp (f80_numberAt p0 p1 Z) fun v139 =>
    some (Int32.toInt64 v139)
  else none
theorem f84_work_ok {p0 : Nat} {p1 : Int32} {Z : mjZt} {v9 : Int64} (h : f84_work p0 p1 Z = some v9) : pG 83 0 (mjEnt [.ref 190, .ref p0, .int p1] (mjML 83)) [] (mjTo Z) (fun r M1 => r = some (.long v9) ∧ M1 = mjTo Z) := by
  unfold f84_work at h
  show pG 83 0 [some (.ref 190), some (.ref p0), some (.int p1), none, none, none, none, none] [] (mjTo Z) _
  refine pG_many 2 (pc1 := 2) (L1 := [some (.ref 190), some (.ref p0), some (.int p1), none, none, none, none, none]) (st1 := [.int p1, .ref p0]) (M1 := mjTo Z) (fun _ _ => rfl) ?_
  have hk101 : mjIs p0 211 8 = true := by
    by_cases q9 : mjIs p0 211 8 = true
    · exact q9
    · rw [if_neg q9] at h; cases h
  rw [if_pos hk101] at h
  cases hq102 : f79_opAt p0 p1 Z with
  | none => rw [hq102] at h; cases h
  | some v103 =>
    rw [hq102, mjBp_some] at h
    refine pG_callV (k2 := 78) (As := [.ref p0, .int p1]) (rest := []) rfl rfl rfl rfl rfl (mjRcv_is hk101 (by decide)) (by decide) (by decide) (f79_opAt_ok hq102) ?_
    rintro r9 M9 ⟨rfl, rfl⟩
    show pG 83 5 [some (.ref 190), some (.ref p0), some (.int p1), none, none, none, none, none] [.int v103] (mjTo Z) _
    refine pG_many 2 (pc1 := 7) (L1 := [some (.ref 190), some (.ref p0), some (.int p1), some (.int v103), none, none, none, none]) (st1 := [.int v103]) (M1 := mjTo Z) (fun _ _ => rfl) ?_
    by_cases hc105 : mjCmp .ne v103 0 = true
    · rw [if_pos hc105] at h
      refine pG_ift (t := 17) rfl rfl hc105 ?_
      refine pG_many 2 (pc1 := 19) (L1 := [some (.ref 190), some (.ref p0), some (.int p1), some (.int v103), none, none, none, none]) (st1 := [.int 1, .int v103]) (M1 := mjTo Z) (fun _ _ => rfl) ?_
      by_cases hc106 : mjCmp .ne v103 1 = true
      · rw [if_pos hc106] at h
        refine pG_cmt (t := 36) rfl rfl hc106 ?_
        refine pG_many 1 (pc1 := 37) (L1 := [some (.ref 190), some (.ref p0), some (.int p1), some (.int v103), none, none, none, none]) (st1 := [.ref 190]) (M1 := mjTo Z) (fun _ _ => rfl) ?_
        refine pG_getR (ci := 4) (f := 1) (b := 192) rfl rfl rfl (by rfl) (by decide) rfl ?_
        refine pG_many 3 (pc1 := 43) (L1 := [some (.ref 190), some (.ref p0), some (.int p1), some (.int v103), none, none, none, none]) (st1 := [.int (p1 - 1), .ref 192]) (M1 := mjTo Z) (fun _ _ => rfl) ?_
        cases hq107 : f21_longAt 192 (p1 - 1) Z with
        | none => rw [hq107] at h; cases h
        | some v108 =>
          rw [hq107, mjBp_some] at h
          refine pG_call (k2 := 21) (As := [.ref 192, .int (p1 - 1)]) (rest := []) (fun _ _ => rfl) (by decide) (by decide) (f21_longAt_ok hq107) ?_
          rintro r9 M9 ⟨rfl, rfl⟩
          show pG 83 46 [some (.ref 190), some (.ref p0), some (.int p1), some (.int v103), none, none, none, none] [.long v108] (mjTo Z) _
          refine pG_many 3 (pc1 := 51) (L1 := [some (.ref 190), some (.ref p0), some (.int p1), some (.int v103), some (.long v108), none, none, none]) (st1 := [.int 6, .int v103]) (M1 := mjTo Z) (fun _ _ => rfl) ?_
          by_cases hc110 : mjCmp .ne v103 6 = true
          · rw [if_pos hc110] at h
            refine pG_cmt (t := 59) rfl rfl hc110 ?_
            refine pG_many 1 (pc1 := 60) (L1 := [some (.ref 190), some (.ref p0), some (.int p1), some (.int v103), some (.long v108), none, none, none]) (st1 := [.ref 190]) (M1 := mjTo Z) (fun _ _ => rfl) ?_
            refine pG_getR (ci := 4) (f := 1) (b := 192) rfl rfl rfl (by rfl) (by decide) rfl ?_
            refine pG_many 2 (pc1 := 65) (L1 := [some (.ref 190), some (.ref p0), some (.int p1), some (.int v103), some (.long v108), none, none, none]) (st1 := [.int p1, .ref p0, .ref 192]) (M1 := mjTo Z) (fun _ _ => rfl) ?_
            cases hq111 : f81_leftOf p0 p1 Z with
            | none => rw [hq111] at h; cases h
            | some v112 =>
              rw [hq111, mjBp_some] at h
              refine pG_callV (k2 := 80) (As := [.ref p0, .int p1]) (rest := [.ref 192]) rfl rfl rfl rfl rfl (mjRcv_is hk101 (by decide)) (by decide) (by decide) (f81_leftOf_ok hq111) ?_
              rintro r9 M9 ⟨rfl, rfl⟩
              show pG 83 68 [some (.ref 190), some (.ref p0), some (.int p1), some (.int v103), some (.long v108), none, none, none] [.int v112, .ref 192] (mjTo Z) _
              cases hq114 : f21_longAt 192 v112 Z with
              | none => rw [hq114] at h; cases h
              | some v115 =>
                rw [hq114, mjBp_some] at h
                refine pG_call (k2 := 21) (As := [.ref 192, .int v112]) (rest := []) (fun _ _ => rfl) (by decide) (by decide) (f21_longAt_ok hq114) ?_
                rintro r9 M9 ⟨rfl, rfl⟩
                show pG 83 71 [some (.ref 190), some (.ref p0), some (.int p1), some (.int v103), some (.long v108), none, none, none] [.long v115] (mjTo Z) _
                refine pG_many 3 (pc1 := 75) (L1 := [some (.ref 190), some (.ref p0), some (.int p1), some (.int v103), some (.long v108), none, some (.long v115), none]) (st1 := [.int 5, .int v103]) (M1 := mjTo Z) (fun _ _ => rfl) ?_
                by_cases hc117 : mjCmp .ne v103 5 = true
                · rw [if_pos hc117] at h
                  refine pG_cmt (t := 84) rfl rfl hc117 ?_
                  refine pG_many 2 (pc1 := 86) (L1 := [some (.ref 190), some (.ref p0), some (.int p1), some (.int v103), some (.long v108), none, some (.long v115), none]) (st1 := [.int 4, .int v103]) (M1 := mjTo Z) (fun _ _ => rfl) ?_
                  by_cases hc118 : mjCmp .ne v103 4 = true
                  · rw [if_pos hc118] at h
                    refine pG_cmt (t := 95) rfl rfl hc118 ?_
                    refine pG_many 3 (pc1 := 101) (L1 := [some (.ref 190), some (.ref p0), some (.int p1), some (.int v103), some (.long v108), none, some (.long v115), none]) (st1 := [.int (lg_cmp v115 ((-9223372036854775808)))]) (M1 := mjTo Z) (fun _ _ => rfl) ?_
                    by_cases hc119 : mjCmp .eq (lg_cmp v115 ((-9223372036854775808))) 0 = true
                    · rw [if_pos hc119] at h
                      refine pG_ift (t := 113) rfl rfl hc119 ?_
                      refine pG_many 1 (pc1 := 114) (L1 := [some (.ref 190), some (.ref p0), some (.int p1), some (.int v103), some (.long v108), none, some (.long v115), none]) (st1 := [.int v103]) (M1 := mjTo Z) (fun _ _ => rfl) ?_
                      cases hq120 : f58_isComparison v103 Z with
                      | none => rw [hq120] at h; cases h
                      | some v121 =>
                        rw [hq120, mjBp_some] at h
                        refine pG_call (k2 := 58) (As := [.int v103]) (rest := []) (fun _ _ => rfl) (by decide) (by decide) (f58_isComparison_ok hq120) ?_
                        rintro r9 M9 ⟨rfl, rfl⟩
                        show pG 83 117 [some (.ref 190), some (.ref p0), some (.int p1), some (.int v103), some (.long v108), none, some (.long v115), none] [.int v121] (mjTo Z) _
                        by_cases hc123 : mjCmp .eq v121 0 = true
                        · rw [if_pos hc123] at h
                          refine pG_ift (t := 124) rfl rfl hc123 ?_
                          refine pG_many 1 (pc1 := 127) (L1 := [some (.ref 190), some (.ref p0), some (.int p1), some (.int v103), some (.long v108), none, some (.long v115), none]) (st1 := [.long ((-9223372036854775808))]) (M1 := mjTo Z) (fun _ _ => rfl) ?_
                          simp only [Option.some.injEq] at h
                          subst h
                          exact pG_ret (r := some (.long ((-9223372036854775808)))) rfl ⟨rfl, rfl⟩
                        · rw [if_neg hc123] at h
                          refine pG_iff (t := 124) rfl rfl hc123 ?_
                          refine pG_many 2 (pc1 := 127) (L1 := [some (.ref 190), some (.ref p0), some (.int p1), some (.int v103), some (.long v108), none, some (.long v115), none]) (st1 := [.long 0]) (M1 := mjTo Z) (fun _ _ => rfl) ?_
                          simp only [Option.some.injEq] at h
                          subst h
                          exact pG_ret (r := some (.long 0)) rfl ⟨rfl, rfl⟩
                    · rw [if_neg hc119] at h
                      refine pG_iff (t := 113) rfl rfl hc119 ?_
                      refine pG_many 3 (pc1 := 110) (L1 := [some (.ref 190), some (.ref p0), some (.int p1), some (.int v103), some (.long v108), none, some (.long v115), none]) (st1 := [.int (lg_cmp v108 ((-9223372036854775808)))]) (M1 := mjTo Z) (fun _ _ => rfl) ?_
                      by_cases hc124 : mjCmp .ne (lg_cmp v108 ((-9223372036854775808))) 0 = true
                      · rw [if_pos hc124] at h
                        refine pG_ift (t := 128) rfl rfl hc124 ?_
                        refine pG_many 3 (pc1 := 133) (L1 := [some (.ref 190), some (.ref p0), some (.int p1), some (.int v103), some (.long v108), none, some (.long v115), none]) (st1 := [.long v108, .long v115, .int v103]) (M1 := mjTo Z) (fun _ _ => rfl) ?_
                        cases hq125 : f83_reckon v103 v115 v108 Z with
                        | none => rw [hq125] at h; cases h
                        | some v126 =>
                          rw [hq125, mjBp_some] at h
                          refine pG_call (k2 := 82) (As := [.int v103, .long v115, .long v108]) (rest := []) (fun _ _ => rfl) (by decide) (by decide) (f83_reckon_ok hq125) ?_
                          rintro r9 M9 ⟨rfl, rfl⟩
                          show pG 83 136 [some (.ref 190), some (.ref p0), some (.int p1), some (.int v103), some (.long v108), none, some (.long v115), none] [.long v126] (mjTo Z) _
                          simp only [Option.some.injEq] at h
                          subst h
                          exact pG_ret (r := some (.long v126)) rfl ⟨rfl, rfl⟩
                      · rw [if_neg hc124] at h
                        refine pG_iff (t := 128) rfl rfl hc124 ?_
                        refine pG_many 1 (pc1 := 114) (L1 := [some (.ref 190), some (.ref p0), some (.int p1), some (.int v103), some (.long v108), none, some (.long v115), none]) (st1 := [.int v103]) (M1 := mjTo Z) (fun _ _ => rfl) ?_
                        cases hq128 : f58_isComparison v103 Z with
                        | none => rw [hq128] at h; cases h
                        | some v129 =>
                          rw [hq128, mjBp_some] at h
                          refine pG_call (k2 := 58) (As := [.int v103]) (rest := []) (fun _ _ => rfl) (by decide) (by decide) (f58_isComparison_ok hq128) ?_
                          rintro r9 M9 ⟨rfl, rfl⟩
                          show pG 83 117 [some (.ref 190), some (.ref p0), some (.int p1), some (.int v103), some (.long v108), none, some (.long v115), none] [.int v129] (mjTo Z) _
                          by_cases hc131 : mjCmp .eq v129 0 = true
                          · rw [if_pos hc131] at h
                            refine pG_ift (t := 124) rfl rfl hc131 ?_
                            refine pG_many 1 (pc1 := 127) (L1 := [some (.ref 190), some (.ref p0), some (.int p1), some (.int v103), some (.long v108), none, some (.long v115), none]) (st1 := [.long ((-9223372036854775808))]) (M1 := mjTo Z) (fun _ _ => rfl) ?_
                            simp only [Option.some.injEq] at h
                            subst h
                            exact pG_ret (r := some (.long ((-9223372036854775808)))) rfl ⟨rfl, rfl⟩
                          · rw [if_neg hc131] at h
                            refine pG_iff (t := 124) rfl rfl hc131 ?_
                            refine pG_many 2 (pc1 := 127) (L1 := [some (.ref 190), some (.ref p0), some (.int p1), some (.int v103), some (.long v108), none, some (.long v115), none]) (st1 := [.long 0]) (M1 := mjTo Z) (fun _ _ => rfl) ?_
                            simp only [Option.some.injEq] at h
                            subst h
                            exact pG_ret (r := some (.long 0)) rfl ⟨rfl, rfl⟩
                  · rw [if_neg hc118] at h
                    refine pG_cmf (t := 95) rfl rfl hc118 ?_
                    refine pG_many 3 (pc1 := 94) (L1 := [some (.ref 190), some (.ref p0), some (.int p1), some (.int v103), some (.long v108), none, some (.long v115), none]) (st1 := [.long (v115 ||| v108)]) (M1 := mjTo Z) (fun _ _ => rfl) ?_
                    simp only [Option.some.injEq] at h
                    subst h
                    exact pG_ret (r := some (.long (v115 ||| v108))) rfl ⟨rfl, rfl⟩
                · rw [if_neg hc117] at h
                  refine pG_cmf (t := 84) rfl rfl hc117 ?_
                  refine pG_many 3 (pc1 := 83) (L1 := [some (.ref 190), some (.ref p0), some (.int p1), some (.int v103), some (.long v108), none, some (.long v115), none]) (st1 := [.long (v115 &&& v108)]) (M1 := mjTo Z) (fun _ _ => rfl) ?_
                  simp only [Option.some.injEq] at h
                  subst h
                  exact pG_ret (r := some (.long (v115 &&& v108))) rfl ⟨rfl, rfl⟩
          · rw [if_neg hc110] at h
            refine pG_cmf (t := 59) rfl rfl hc110 ?_
            refine pG_many 3 (pc1 := 58) (L1 := [some (.ref 190), some (.ref p0), some (.int p1), some (.int v103), some (.long v108), none, none, none]) (st1 := [.long (1 - v108)]) (M1 := mjTo Z) (fun _ _ => rfl) ?_
            simp only [Option.some.injEq] at h
            subst h
            exact pG_ret (r := some (.long (1 - v108))) rfl ⟨rfl, rfl⟩
      · rw [if_neg hc106] at h
        refine pG_cmf (t := 36) rfl rfl hc106 ?_
        refine pG_many 1 (pc1 := 23) (L1 := [some (.ref 190), some (.ref p0), some (.int p1), some (.int v103), none, none, none, none]) (st1 := [.ref 190]) (M1 := mjTo Z) (fun _ _ => rfl) ?_
        refine pG_getR (ci := 4) (f := 0) (b := 191) rfl rfl rfl (by rfl) (by decide) rfl ?_
        refine pG_many 2 (pc1 := 28) (L1 := [some (.ref 190), some (.ref p0), some (.int p1), some (.int v103), none, none, none, none]) (st1 := [.int p1, .ref p0, .ref 191]) (M1 := mjTo Z) (fun _ _ => rfl) ?_
        cases hq132 : f80_numberAt p0 p1 Z with
        | none => rw [hq132] at h; cases h
        | some v133 =>
          rw [hq132, mjBp_some] at h
          refine pG_callV (k2 := 79) (As := [.ref p0, .int p1]) (rest := [.ref 191]) rfl rfl rfl rfl rfl (mjRcv_is hk101 (by decide)) (by decide) (by decide) (f80_numberAt_ok hq132) ?_
          rintro r9 M9 ⟨rfl, rfl⟩
          show pG 83 31 [some (.ref 190), some (.ref p0), some (.int p1), some (.int v103), none, none, none, none] [.int v133, .ref 191] (mjTo Z) _
          cases hq135 : f5_at 191 v133 Z with
          | none => rw [hq135] at h; cases h
          | some v136 =>
            rw [hq135, mjBp_some] at h
            refine pG_call (k2 := 5) (As := [.ref 191, .int v133]) (rest := []) (fun _ _ => rfl) (by decide) (by decide) (f5_at_ok hq135) ?_
            rintro r9 M9 ⟨rfl, rfl⟩
            show pG 83 34 [some (.ref 190), some (.ref p0), some (.int p1), some (.int v103), none, none, none, none] [.int v136] (mjTo Z) _
            refine pG_many 1 (pc1 := 35) (L1 := [some (.ref 190), some (.ref p0), some (.int p1), some (.int v103), none, none, none, none]) (st1 := [.long (Int32.toInt64 v136)]) (M1 := mjTo Z) (fun _ _ => rfl) ?_
            simp only [Option.some.injEq] at h
            subst h
            exact pG_ret (r := some (.long (Int32.toInt64 v136))) rfl ⟨rfl, rfl⟩
    · rw [if_neg hc105] at h
      refine pG_iff (t := 17) rfl rfl hc105 ?_
      refine pG_many 2 (pc1 := 12) (L1 := [some (.ref 190), some (.ref p0), some (.int p1), some (.int v103), none, none, none, none]) (st1 := [.int p1, .ref p0]) (M1 := mjTo Z) (fun _ _ => rfl) ?_
      cases hq138 : f80_numberAt p0 p1 Z with
      | none => rw [hq138] at h; cases h
      | some v139 =>
        rw [hq138, mjBp_some] at h
        refine pG_callV (k2 := 79) (As := [.ref p0, .int p1]) (rest := []) rfl rfl rfl rfl rfl (mjRcv_is hk101 (by decide)) (by decide) (by decide) (f80_numberAt_ok hq138) ?_
        rintro r9 M9 ⟨rfl, rfl⟩
        show pG 83 15 [some (.ref 190), some (.ref p0), some (.int p1), some (.int v103), none, none, none, none] [.int v139] (mjTo Z) _
        refine pG_many 1 (pc1 := 16) (L1 := [some (.ref 190), some (.ref p0), some (.int p1), some (.int v103), none, none, none, none]) (st1 := [.long (Int32.toInt64 v139)]) (M1 := mjTo Z) (fun _ _ => rfl) ?_
        simp only [Option.some.injEq] at h
        subst h
        exact pG_ret (r := some (.long (Int32.toInt64 v139))) rfl ⟨rfl, rfl⟩
