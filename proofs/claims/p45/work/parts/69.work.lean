/-! THE CLASS works a condition -/
theorem mul62 {l r : Int} (h1 : -2147483648 ≤ l ∧ l ≤ 2147483647) (h2 : -2147483648 ≤ r ∧ r ≤ 2147483647) : -4611686018427387904 ≤ l * r ∧ l * r ≤ 4611686018427387904 := by
  have h3 : (l * r).natAbs ≤ 2147483648 * 2147483648 := by
    rw [Int.natAbs_mul]
    exact Nat.mul_le_mul (by omega) (by omega)
  omega
theorem i3_p (x : Int) : i3 x - 1 = i3 (x - 1) := by rw [show (1 : Int32) = i3 1 from rfl, i3_sub]
theorem i3_s (n : Nat) : i3 (n : Int) + 1 = i3 ((n + 1 : Nat) : Int) := by rw [show (1 : Int32) = i3 1 from rfl, i3_add]; rfl
section WK
variable {b : Nat} {S : mjS} {Z : mjZt} {fk : Nat → Int}
theorem e82 {x : Int} (h : -4611686018427387904 ≤ x ∧ x ≤ 4611686018427387904) : f82_within32 (i6 x) Z = some (i6 (w32 x)) := by
  unfold f82_within32 w32
  rw [i63]
  by_cases q : -2147483648 ≤ x ∧ x ≤ 2147483647
  · rw [if_pos q, i36 q, lg6_eq rfl, if_neg (by decide)]
  · rw [if_neg q]
    have e := i3_toInt (i3 x)
    have l1 := (i3 x).le_toInt
    have l2 := (i3 x).toInt_lt
    generalize (i3 x).toInt = y at e l1 l2
    rw [← e, i36 (by omega)]
    rcases Int.lt_trichotomy x y with q2 | q2 | q2
    · rw [lg6_lt (by omega), if_pos (by decide)]; rfl
    · omega
    · rw [lg6_gt (by omega), if_pos (by decide)]; rfl
theorem e58 {x : Int} (h : -2147483648 ≤ x ∧ x ≤ 2147483647) : f58_isComparison (i3 x) Z = some (i3 (if 7 ≤ x ∧ x ≤ 9 then 1 else 0)) := by
  unfold f58_isComparison
  rcases (by omega : x < 7 ∨ 9 < x ∨ (7 ≤ x ∧ x ≤ 9)) with q | q | q
  · rw [if_neg (c := 7 ≤ x ∧ x ≤ 9) (by omega)]
    simp (disch := omega) only [let_eq, mjBp_some, mjBd_some, n_0, n_1, n_2, n_3, n_4, n_5, n_6, n_7, n_8, n_9, n_10, n_11, n_12, n_13, n_16, n_20, n_21, n_22, n_23, n_30, n_31, n_32, n_40, n_41, n_42, n_43, n_45, n_48, n_50, n_51, n_52, n_57, n_59, n_60, n_61, n_62, n_63, n_72, n_97, n_99, n_100, n_108, n_120, n_122, n_123, n_125, n_127, n_180, n_255, n_400, n_700, n_999, n_9999, n_2000000, n_2147483647, i3_add, i3_sub, i3_mul, i3_neg, i3_div, max_i3, min_i3, i6_add, i6_sub, i6_mul, i6_neg, c_lt_t, c_lt_f, c_ge_t, c_ge_f, c_gt_t, c_gt_f, c_le_t, c_le_f, c_eq_t, c_eq_f, c_ne_t, c_ne_f, in_t, i3_ofNat, ↓reduceIte, or_true, true_or, or_false, false_or, and_true, true_and, and_false, false_and, decide_true, decide_false, Bool.false_eq_true, not_true_eq_false, not_false_eq_true, Bool.true_and, Bool.false_and, Bool.and_true, Bool.and_false, Bool.true_or, Bool.false_or, Bool.or_true, Bool.or_false, e3_t, e3_f, sw_t, sw_f, sj_t, sj_f, i36, lg6_lt, lg6_eq, lg6_gt, Int.add_sub_cancel, l_0, l_1, l_2, l_3, l_4, l_5, l_10, l_9999]
  · rw [if_neg (c := 7 ≤ x ∧ x ≤ 9) (by omega)]
    simp (disch := omega) only [let_eq, mjBp_some, mjBd_some, n_0, n_1, n_2, n_3, n_4, n_5, n_6, n_7, n_8, n_9, n_10, n_11, n_12, n_13, n_16, n_20, n_21, n_22, n_23, n_30, n_31, n_32, n_40, n_41, n_42, n_43, n_45, n_48, n_50, n_51, n_52, n_57, n_59, n_60, n_61, n_62, n_63, n_72, n_97, n_99, n_100, n_108, n_120, n_122, n_123, n_125, n_127, n_180, n_255, n_400, n_700, n_999, n_9999, n_2000000, n_2147483647, i3_add, i3_sub, i3_mul, i3_neg, i3_div, max_i3, min_i3, i6_add, i6_sub, i6_mul, i6_neg, c_lt_t, c_lt_f, c_ge_t, c_ge_f, c_gt_t, c_gt_f, c_le_t, c_le_f, c_eq_t, c_eq_f, c_ne_t, c_ne_f, in_t, i3_ofNat, ↓reduceIte, or_true, true_or, or_false, false_or, and_true, true_and, and_false, false_and, decide_true, decide_false, Bool.false_eq_true, not_true_eq_false, not_false_eq_true, Bool.true_and, Bool.false_and, Bool.and_true, Bool.and_false, Bool.true_or, Bool.false_or, Bool.or_true, Bool.or_false, e3_t, e3_f, sw_t, sw_f, sj_t, sj_f, i36, lg6_lt, lg6_eq, lg6_gt, Int.add_sub_cancel, l_0, l_1, l_2, l_3, l_4, l_5, l_10, l_9999]
  · rw [if_pos q]
    simp (disch := omega) only [let_eq, mjBp_some, mjBd_some, n_0, n_1, n_2, n_3, n_4, n_5, n_6, n_7, n_8, n_9, n_10, n_11, n_12, n_13, n_16, n_20, n_21, n_22, n_23, n_30, n_31, n_32, n_40, n_41, n_42, n_43, n_45, n_48, n_50, n_51, n_52, n_57, n_59, n_60, n_61, n_62, n_63, n_72, n_97, n_99, n_100, n_108, n_120, n_122, n_123, n_125, n_127, n_180, n_255, n_400, n_700, n_999, n_9999, n_2000000, n_2147483647, i3_add, i3_sub, i3_mul, i3_neg, i3_div, max_i3, min_i3, i6_add, i6_sub, i6_mul, i6_neg, c_lt_t, c_lt_f, c_ge_t, c_ge_f, c_gt_t, c_gt_f, c_le_t, c_le_f, c_eq_t, c_eq_f, c_ne_t, c_ne_f, in_t, i3_ofNat, ↓reduceIte, or_true, true_or, or_false, false_or, and_true, true_and, and_false, false_and, decide_true, decide_false, Bool.false_eq_true, not_true_eq_false, not_false_eq_true, Bool.true_and, Bool.false_and, Bool.and_true, Bool.and_false, Bool.true_or, Bool.false_or, Bool.or_true, Bool.or_false, e3_t, e3_f, sw_t, sw_f, sj_t, sj_f, i36, lg6_lt, lg6_eq, lg6_gt, Int.add_sub_cancel, l_0, l_1, l_2, l_3, l_4, l_5, l_10, l_9999]
theorem e79 (hb : b = 2 ∨ b = 92) {i : Nat} (hi : i < 700) : f79_opAt (b + 1) (i3 i) Z = some (Z.1 (b + 1 + 1) i) := by
  unfold f79_opAt
  rw [if_pos (is_b1 hb), e5 (is_b2 hb 0 (by omega)) ((is_trm hb).1 0 (by omega)) (by omega) (by omega), mjBp_some, Int.toNat_natCast]
theorem e80 (hb : b = 2 ∨ b = 92) {i : Nat} (hi : i < 700) : f80_numberAt (b + 1) (i3 i) Z = some (Z.1 (b + 1 + 2) i) := by
  unfold f80_numberAt
  rw [if_pos (is_b1 hb), e5 (is_b2 hb 1 (by omega)) ((is_trm hb).1 1 (by omega)) (by omega) (by omega), mjBp_some, Int.toNat_natCast]
theorem e81 (hb : b = 2 ∨ b = 92) {i : Nat} (hi : i < 700) : f81_leftOf (b + 1) (i3 i) Z = some (Z.1 (b + 1 + 3) i) := by
  unfold f81_leftOf
  rw [if_pos (is_b1 hb), e5 (is_b2 hb 2 (by omega)) ((is_trm hb).1 2 (by omega)) (by omega) (by omega), mjBp_some, Int.toNat_natCast]
theorem e21v {i : Nat} (hi : i < 700) : f21_longAt 192 (i3 i) Z = some (Z.2.1 192 i) := by
  rw [e21 (n := 700) rfl rfl (by omega) (by omega), Int.toNat_natCast]
theorem e21p {i : Nat} (h0 : 0 < i) (hi : i ≤ 700) : f21_longAt 192 (i3 ((i : Int) - 1)) Z = some (Z.2.1 192 (i - 1)) := by
  rw [e21 (n := 700) rfl rfl (by omega) (by omega), show ((i : Int) - 1).toNat = i - 1 by omega]
theorem e83 {c l r : Int} (hc : c = 7 ∨ c = 8 ∨ c = 9 ∨ c = 10 ∨ c = 11 ∨ c = 12) (h1 : -2147483648 ≤ l ∧ l ≤ 2147483647) (h2 : -2147483648 ≤ r ∧ r ≤ 2147483647) : f83_reckon (i3 c) (i6 l) (i6 r) Z = some (i6 (if c = 7 then (if l < r then 1 else 0) else if c = 8 then (if r < l then 1 else 0) else if c = 9 then (if l = r then 1 else 0) else if c = 10 then w32 (l + r) else if c = 11 then w32 (l - r) else w32 (l * r))) := by
  unfold f83_reckon
  rcases hc with rfl | rfl | rfl | rfl | rfl | rfl
  · refine Eq.trans ?_ (show some (i6 (if l < r then 1 else 0)) = _ from rfl)
    rw [if_neg (by decide), if_pos (by decide)]
    rcases Int.lt_trichotomy l r with q | q | q
    · rw [lg6_lt (by omega), if_neg (by decide), if_pos q]; rfl
    · rw [lg6_eq q, if_pos (by decide), if_neg (by omega)]; rfl
    · rw [lg6_gt (by omega), if_pos (by decide), if_neg (by omega)]; rfl
  · refine Eq.trans ?_ (show some (i6 (if r < l then 1 else 0)) = _ from rfl)
    rw [if_neg (by decide), if_neg (by decide), if_pos (by decide)]
    rcases Int.lt_trichotomy l r with q | q | q
    · rw [lg6_lt (by omega), if_pos (by decide), if_neg (by omega)]; rfl
    · rw [lg6_eq q, if_pos (by decide), if_neg (by omega)]; rfl
    · rw [lg6_gt (by omega), if_neg (by decide), if_pos q]; rfl
  · refine Eq.trans ?_ (show some (i6 (if l = r then 1 else 0)) = _ from rfl)
    rw [if_neg (by decide), if_neg (by decide), if_neg (by decide), if_pos (by decide)]
    rcases Int.lt_trichotomy l r with q | q | q
    · rw [lg6_lt (by omega), if_pos (by decide), if_neg (by omega)]; rfl
    · rw [lg6_eq q, if_neg (by decide), if_pos q]; rfl
    · rw [lg6_gt (by omega), if_pos (by decide), if_neg (by omega)]; rfl
  · rw [if_neg (by decide), if_neg (by decide), if_neg (by decide), if_neg (by decide), if_pos (by decide), i6_add, e82 (by omega), mjBp_some]; rfl
  · rw [if_neg (by decide), if_neg (by decide), if_neg (by decide), if_neg (by decide), if_neg (by decide), if_pos (by decide), i6_sub, e82 (by omega), mjBp_some]; rfl
  · rw [if_pos (by decide), i6_mul, e82 (mul62 h1 h2), mjBp_some]; rfl
theorem tt01 {x y : Int} (hx : x = 0 ∨ x = 1) (hy : y = 0 ∨ y = 1) : i6 x &&& i6 y = i6 (if x = 1 ∧ y = 1 then 1 else 0) ∧ i6 x ||| i6 y = i6 (if x = 1 ∨ y = 1 then 1 else 0) := by
  rcases hx with rfl | rfl <;> rcases hy with rfl | rfl <;> exact ⟨by decide, by decide⟩
theorem e84 (hb : b = 2 ∨ b = 92) (hf : ∀ k, k ≤ 10 → -2147483648 ≤ fk k ∧ fk k ≤ 2147483647) (hF : ∀ k, k ≤ 10 → Z.1 191 k = i3 (fk k)) {fr to : Nat} (hw : WF S fr to) (hto : to ≤ 700) (hc : cOne Z b S fr to) {i : Nat} (h1 : fr ≤ i) (h2 : i < to) (hT : ∀ j, fr ≤ j → j < i → Z.2.1 192 j = i6 (vS S fk j)) : f84_work (b + 1) (i3 i) Z = some (i6 (vS S fk i)) := by
  obtain ⟨g1, g2, g3⟩ := hw.2.2.2 i h1 h2
  obtain ⟨c1, c2, c3⟩ := hc i h1 h2
  unfold f84_work
  rw [if_pos (is_b1 hb), e79 hb (by omega), mjBp_some, c1]
  cases q : isLf (S 9 i) with
  | true =>
    have e : vS S fk i = vL S fk i := tS_leaf q
    rw [e]
    unfold vL
    simp only [isLf, decide_eq_true_eq] at q
    unfold cdv at g1
    by_cases q2 : 100 ≤ S 9 i
    · rw [show opC (S 9 i) = 0 from if_pos q2, if_neg (by decide), e80 hb (by omega), mjBp_some, c2, show nuC S fr i = S 9 i - 100 from if_pos q2, i36 (by omega), if_pos q2]
    · rw [show opC (S 9 i) = 1 from (if_neg q2).trans (if_pos (by omega)), if_pos (by decide), if_neg (by decide), e80 hb (by omega), mjBp_some, c2, show nuC S fr i = S 9 i - 1 from (if_neg q2).trans (if_pos (by omega)), e5 (n := 11) rfl rfl (by omega) (by omega), mjBp_some, hF _ (by omega), i36 (hf _ (by omega)), if_neg q2]
  | false =>
    have q' := q
    simp only [isLf, decide_eq_false_iff_not] at q'
    by_cases q2 : S 9 i = 40
    · obtain ⟨g4, g5, g6⟩ := g2 q2
      have e : vS S fk i = 1 - vS S fk (i - 1) := tS_not q2 (by omega)
      rw [e, show opC (S 9 i) = 6 by rw [q2]; rfl, if_pos (by decide), if_pos (by decide), show (1 : Int32) = i3 1 from rfl, i3_sub, e21p (by omega) (by omega), mjBp_some, if_neg (by decide), hT (i - 1) (by omega) (by omega), show (1 : Int64) = i6 1 from rfl, i6_sub]
    · obtain ⟨g4, g5, g6, g7, g8, g9⟩ := g3 q q2
      have e : vS S fk i = vB S i (vS S fk (lfS S i)) (vS S fk (i - 1)) := tS_bin q q2 (by omega)
      have spl := sp_le S (i - 1)
      have l1 : lfS S i < i := by unfold lfS; omega
      have l2 : fr ≤ lfS S i := by unfold lfS; omega
      have bl := vS_bd hf hw (lfS S i + 1) (lfS S i) (by omega) l2 (by omega)
      have br := vS_bd hf hw (i - 1 + 1) (i - 1) (by omega) (by omega) (by omega)
      have tl := hT (lfS S i) l2 l1
      have tr := hT (i - 1) (by omega) (by omega)
      have c3' := c3 q q2
      have pre : ∀ (c : Int), opC (S 9 i) = c → c = 4 ∨ c = 5 ∨ c = 7 ∨ c = 8 ∨ c = 9 ∨ c = 10 ∨ c = 11 ∨ c = 12 → (if mjCmp .ne (i3 c) 0 = true then
    if mjCmp .ne (i3 c) 1 = true then
      mjBp (f21_longAt 192 (i3 i - 1) Z) fun v108 =>
      if mjCmp .ne (i3 c) 6 = true then
        mjBp (f81_leftOf (b + 1) (i3 i) Z) fun v112 =>
        mjBp (f21_longAt 192 v112 Z) fun v115 =>
        if mjCmp .ne (i3 c) 5 = true then
          if mjCmp .ne (i3 c) 4 = true then
            if mjCmp .eq (lg_cmp v115 ((-9223372036854775808))) 0 = true then
              mjBp (f58_isComparison (i3 c) Z) fun v121 =>
              if mjCmp .eq v121 0 = true then
                some ((-9223372036854775808))
              else
                some 0
            else
              if mjCmp .ne (lg_cmp v108 ((-9223372036854775808))) 0 = true then
                mjBp (f83_reckon (i3 c) v115 v108 Z) fun v126 =>
                some v126
              else
                mjBp (f58_isComparison (i3 c) Z) fun v129 =>
                if mjCmp .eq v129 0 = true then
                  some ((-9223372036854775808))
                else
                  some 0
          else
            some (v115 ||| v108)
        else
          some (v115 &&& v108)
      else
        some (1 - v108)
    else
      mjBp (f80_numberAt (b + 1) (i3 i) Z) fun v133 =>
      mjBp (f5_at 191 v133 Z) fun v136 =>
      some (Int32.toInt64 v136)
  else
    mjBp (f80_numberAt (b + 1) (i3 i) Z) fun v139 =>
    some (Int32.toInt64 v139)) = (if c = 5 then some (i6 (vS S fk (lfS S i)) &&& i6 (vS S fk (i - 1))) else if c = 4 then some (i6 (vS S fk (lfS S i)) ||| i6 (vS S fk (i - 1))) else if vS S fk (lfS S i) = BEY ∨ vS S fk (i - 1) = BEY then some (i6 (if 7 ≤ c ∧ c ≤ 9 then 0 else BEY)) else (mjBp (f83_reckon (i3 c) (i6 (vS S fk (lfS S i))) (i6 (vS S fk (i - 1))) Z) fun v126 => some v126)) := by
        intro c _ hc
        have zb : ∀ x : Int, (x = BEY ∨ (-2147483648 ≤ x ∧ x ≤ 2147483647)) ∨ (x = 0 ∨ x = 1) → (mjCmp .eq (lg_cmp (i6 x) ((-9223372036854775808))) 0 = true ↔ x = BEY) := by
          intro x hx
          rw [show ((-9223372036854775808) : Int64) = i6 BEY from rfl]
          unfold BEY at hx ⊢
          by_cases q5 : x = -9223372036854775808
          · rw [lg6_eq q5]; simp [q5]; decide
          · rw [lg6_gt (by omega)]; simp [q5]; decide
        have zb2 : ∀ x : Int, (x = BEY ∨ (-2147483648 ≤ x ∧ x ≤ 2147483647)) ∨ (x = 0 ∨ x = 1) → (mjCmp .ne (lg_cmp (i6 x) ((-9223372036854775808))) 0 = true ↔ ¬ x = BEY) := by
          intro x hx
          rw [show ((-9223372036854775808) : Int64) = i6 BEY from rfl]
          unfold BEY at hx ⊢
          by_cases q5 : x = -9223372036854775808
          · rw [lg6_eq q5]; simp [q5]; decide
          · rw [lg6_gt (by omega)]; simp [q5]; decide
        have hl : (vS S fk (lfS S i) = BEY ∨ (-2147483648 ≤ vS S fk (lfS S i) ∧ vS S fk (lfS S i) ≤ 2147483647)) ∨ (vS S fk (lfS S i) = 0 ∨ vS S fk (lfS S i) = 1) := by
          cases q6 : isTt (S 9 (lfS S i)) with
          | true => exact Or.inr (bl.1 q6)
          | false => exact Or.inl (bl.2 q6)
        have hr : (vS S fk (i - 1) = BEY ∨ (-2147483648 ≤ vS S fk (i - 1) ∧ vS S fk (i - 1) ≤ 2147483647)) ∨ (vS S fk (i - 1) = 0 ∨ vS S fk (i - 1) = 1) := by
          cases q6 : isTt (S 9 (i - 1)) with
          | true => exact Or.inr (br.1 q6)
          | false => exact Or.inl (br.2 q6)
        rw [if_pos (by rw [show (0 : Int32) = i3 0 from rfl, c_ne (by omega)]; omega), if_pos (by rw [show (1 : Int32) = i3 1 from rfl, c_ne (by omega)]; omega), i3_p, e21p (by omega) (by omega), mjBp_some, if_pos (by rw [show (6 : Int32) = i3 6 from rfl, c_ne (by omega)]; omega), e81 hb (by omega), mjBp_some, c3', e21v (by omega), mjBp_some, tl, tr, show (5 : Int32) = i3 5 from rfl, show (4 : Int32) = i3 4 from rfl]
        by_cases q5 : c = 5
        · rw [if_pos q5, if_neg (by rw [c_ne (by omega)]; omega)]
        · rw [if_neg q5, if_pos (by rw [c_ne (by omega)]; omega)]
          by_cases q4 : c = 4
          · rw [if_pos q4, if_neg (by rw [c_ne (by omega)]; omega)]
          · rw [if_neg q4, if_pos (by rw [c_ne (by omega)]; omega), e58 (by omega), mjBp_some]
            have fin : (if mjCmp .eq (i3 (if 7 ≤ c ∧ c ≤ 9 then 1 else 0)) 0 = true then some ((-9223372036854775808) : Int64) else some 0) = some (i6 (if 7 ≤ c ∧ c ≤ 9 then 0 else BEY)) := by
              by_cases q7 : 7 ≤ c ∧ c ≤ 9
              · rw [if_pos q7, if_pos q7, if_neg (by decide)]; rfl
              · rw [if_neg q7, if_neg q7, if_pos (by decide)]; rfl
            by_cases q6 : vS S fk (lfS S i) = BEY
            · rw [if_pos (Or.inl q6), if_pos ((zb _ hl).mpr q6)]
              exact fin
            · rw [if_neg (fun q8 => q6 ((zb _ hl).mp q8))]
              by_cases q8 : vS S fk (i - 1) = BEY
              · rw [if_pos (Or.inr q8), if_neg (fun q9 => (zb2 _ hr).mp q9 q8)]
                exact fin
              · rw [if_pos ((zb2 _ hr).mpr q8), if_neg (fun q9 => q9.elim q6 q8)]
      unfold cdv at g1
      rw [e]
      unfold vB
      rcases (by omega : S 9 i = 21 ∨ S 9 i = 22 ∨ S 9 i = 23 ∨ S 9 i = 30 ∨ S 9 i = 31 ∨ S 9 i = 32 ∨ S 9 i = 41 ∨ S 9 i = 42) with c | c | c | c | c | c | c | c
      all_goals
        have oc : opC (S 9 i) = opC (S 9 i) := rfl
        conv at oc => rhs; rw [c]
        rw [oc, c]
        refine (pre _ oc (by decide)).trans ?_
      · have n1 := g7 (by omega)
        have b1 := bl.2 n1.2
        have b2 := br.2 n1.1
        refine Eq.trans ?_ (show some (i6 (if vS S fk (lfS S i) = BEY ∨ vS S fk (i - 1) = BEY then BEY else w32 (vS S fk (lfS S i) + vS S fk (i - 1)))) = _ from rfl)
        rw [if_neg (by decide), if_neg (by decide)]
        by_cases q3 : vS S fk (lfS S i) = BEY ∨ vS S fk (i - 1) = BEY
        · rw [if_pos q3, if_pos q3]; rfl
        · rw [if_neg q3, if_neg q3, e83 (by decide) (by omega) (by omega), mjBp_some]; rfl
      · have n1 := g7 (by omega)
        have b1 := bl.2 n1.2
        have b2 := br.2 n1.1
        refine Eq.trans ?_ (show some (i6 (if vS S fk (lfS S i) = BEY ∨ vS S fk (i - 1) = BEY then BEY else w32 (vS S fk (lfS S i) - vS S fk (i - 1)))) = _ from rfl)
        rw [if_neg (by decide), if_neg (by decide)]
        by_cases q3 : vS S fk (lfS S i) = BEY ∨ vS S fk (i - 1) = BEY
        · rw [if_pos q3, if_pos q3]; rfl
        · rw [if_neg q3, if_neg q3, e83 (by decide) (by omega) (by omega), mjBp_some]; rfl
      · have n1 := g7 (by omega)
        have b1 := bl.2 n1.2
        have b2 := br.2 n1.1
        refine Eq.trans ?_ (show some (i6 (if vS S fk (lfS S i) = BEY ∨ vS S fk (i - 1) = BEY then BEY else w32 (vS S fk (lfS S i) * vS S fk (i - 1)))) = _ from rfl)
        rw [if_neg (by decide), if_neg (by decide)]
        by_cases q3 : vS S fk (lfS S i) = BEY ∨ vS S fk (i - 1) = BEY
        · rw [if_pos q3, if_pos q3]; rfl
        · rw [if_neg q3, if_neg q3, e83 (by decide) (by omega) (by omega), mjBp_some]; rfl
      · have n1 := g7 (by omega)
        have b1 := bl.2 n1.2
        have b2 := br.2 n1.1
        refine Eq.trans ?_ (show some (i6 (if vS S fk (lfS S i) = BEY ∨ vS S fk (i - 1) = BEY then 0 else if vS S fk (lfS S i) < vS S fk (i - 1) then 1 else 0)) = _ from rfl)
        rw [if_neg (by decide), if_neg (by decide)]
        by_cases q3 : vS S fk (lfS S i) = BEY ∨ vS S fk (i - 1) = BEY
        · rw [if_pos q3, if_pos q3]; rfl
        · rw [if_neg q3, if_neg q3, e83 (by decide) (by omega) (by omega), mjBp_some]; rfl
      · have n1 := g7 (by omega)
        have b1 := bl.2 n1.2
        have b2 := br.2 n1.1
        refine Eq.trans ?_ (show some (i6 (if vS S fk (lfS S i) = BEY ∨ vS S fk (i - 1) = BEY then 0 else if vS S fk (i - 1) < vS S fk (lfS S i) then 1 else 0)) = _ from rfl)
        rw [if_neg (by decide), if_neg (by decide)]
        by_cases q3 : vS S fk (lfS S i) = BEY ∨ vS S fk (i - 1) = BEY
        · rw [if_pos q3, if_pos q3]; rfl
        · rw [if_neg q3, if_neg q3, e83 (by decide) (by omega) (by omega), mjBp_some]; rfl
      · have n1 := g7 (by omega)
        have b1 := bl.2 n1.2
        have b2 := br.2 n1.1
        refine Eq.trans ?_ (show some (i6 (if vS S fk (lfS S i) = BEY ∨ vS S fk (i - 1) = BEY then 0 else if vS S fk (lfS S i) = vS S fk (i - 1) then 1 else 0)) = _ from rfl)
        rw [if_neg (by decide), if_neg (by decide)]
        by_cases q3 : vS S fk (lfS S i) = BEY ∨ vS S fk (i - 1) = BEY
        · rw [if_pos q3, if_pos q3]; rfl
        · rw [if_neg q3, if_neg q3, e83 (by decide) (by omega) (by omega), mjBp_some]; rfl
      · have n1 := g9 (by omega)
        rw [if_pos (by decide), if_pos rfl, (tt01 (bl.1 n1.2) (br.1 n1.1)).1]
      · have n1 := g9 (by omega)
        rw [if_neg (by decide), if_pos (by decide), if_neg (by decide), if_pos rfl, (tt01 (bl.1 n1.2) (br.1 n1.1)).2]
/-- only the values are written -/
def eqV (Z Z2 : mjZt) : Prop := Z2.1 = Z.1 ∧ Z2.2.2 = Z.2.2 ∧ ∀ o, o ≠ 192 → Z2.2.1 o = Z.2.1 o
theorem eqV_rf {Z : mjZt} : eqV Z Z := ⟨rfl, rfl, fun _ _ => rfl⟩
theorem eqV_tr {Z Z2 Z3 : mjZt} (h : eqV Z Z2) (g : eqV Z2 Z3) : eqV Z Z3 := ⟨g.1.trans h.1, g.2.1.trans h.2.1, fun o ho => (g.2.2 o ho).trans (h.2.2 o ho)⟩
theorem eqV_sl {Z : mjZt} {k : Nat} {v : Int64} : eqV Z (zSl Z 192 k v) := ⟨rfl, rfl, fun o ho => sl_obj Z 192 k v (by omega)⟩
theorem eqV_q {Z Z2 : mjZt} (h : eqV Z Z2) : eqQ Z Z2 := ⟨h.2.1, fun a h1 h2 => ⟨by rw [h.1], h.2.2 a (by unfold scr at h1; omega)⟩, fun f hf => by rw [h.1], h.2.2 211 (by omega)⟩
theorem e85h (hb : b = 2 ∨ b = 92) (hf : ∀ k, k ≤ 10 → -2147483648 ≤ fk k ∧ fk k ≤ 2147483647) {fr to : Nat} (hw : WF S fr to) (hto : to ≤ 700) : ∀ f i n (Z : mjZt), i + f = to → f < n → fr ≤ i → (∀ k, k ≤ 10 → Z.1 191 k = i3 (fk k)) → cOne Z b S fr to → (∀ j, fr ≤ j → j < i → Z.2.1 192 j = i6 (vS S fk j)) → ∃ Z1, f85_isSo_h20 n (b + 1) (i3 to) (i3 i) Z = some (i3 (if vS S fk (to - 1) = 1 then 1 else 0), Z1) ∧ eqV Z Z1 ∧ ∀ j, fr ≤ j → j < to → Z1.2.1 192 j = i6 (vS S fk j)
  | f, i, 0, Z, _, hn, _, _, _, _ => by omega
  | 0, i, n + 1, Z, hf0, _, h1, hF, hc, hT => by
    obtain rfl : i = to := by omega
    have hlt := hw.1
    have b1 := (vS_bd hf hw (i - 1 + 1) (i - 1) (by omega) (by omega) (by omega)).1 hw.2.1
    refine ⟨Z, ?_, eqV_rf, hT⟩
    rw [f85_isSo_h20, if_neg (by rw [show (0 : Int32) = i3 0 from rfl, c_lt (by omega)]; omega), if_pos (by rw [c_ge (by omega)]; omega)]
    unfold f85_isSo_j62
    rw [show (1 : Int32) = i3 1 from rfl, i3_sub, e21p (by omega) (by omega), mjBp_some, hT (i - 1) (by omega) (by omega), show (1 : Int64) = i6 1 from rfl]
    rcases b1 with b1 | b1
    · rw [b1]; rfl
    · rw [b1]; rfl
  | f + 1, i, n + 1, Z, hf0, hn, h1, hF, hc, hT => by
    have e := e84 hb hf hF hw hto hc h1 (by omega) hT
    obtain ⟨Z1, g1, g2, g3⟩ := e85h hb hf hw hto f (i + 1) n (zSl Z 192 i (i6 (vS S fk i))) (by omega) (by omega) (by omega) hF hc (fun j h3 h4 => by
      by_cases q : j = i
      · subst q; exact sl_same _ _ _ _
      · rw [sl_fld _ _ _ _ (by omega)]; exact hT j h3 (by omega))
    refine ⟨Z1, ?_, eqV_tr eqV_sl g2, g3⟩
    rw [f85_isSo_h20, if_neg (by rw [show (0 : Int32) = i3 0 from rfl, c_lt (by omega)]; omega), if_neg (by rw [c_ge (by omega)]; omega), if_neg (by rw [show (700 : Int32) = i3 700 from rfl, c_ge (by omega)]; omega), e, mjBp_some, if_pos (in_p (by omega)), let_eq, ix_nat (by omega), i3_s]
    exact g1
theorem e77 (hb : b = 2 ∨ b = 92) {r p : Nat} (hr : r < 8) (hp : p < 2) : f77_fromOf (b + 1) (i3 r) (i3 p) Z = some (Z.1 (b + 1 + 4) (2 * r + p)) := by
  unfold f77_fromOf f76_condition
  rw [if_pos (is_b1 hb), show (2 : Int32) = i3 2 from rfl, i3_mul, i3_add, mjBp_some, e5 (is_b2 hb 3 (by omega)) ((is_trm hb).2 0 (by omega)) (by omega) (by omega), mjBp_some, show ((r : Int) * 2 + p).toNat = 2 * r + p by omega]
theorem e78 (hb : b = 2 ∨ b = 92) {r p : Nat} (hr : r < 8) (hp : p < 2) {x : Int} (hx : Z.1 (b + 1 + 5) (2 * r + p) = i3 x) (hx2 : 0 ≤ x ∧ x ≤ 700) : f78_toOf (b + 1) (i3 r) (i3 p) Z = some (i3 x) := by
  unfold f78_toOf f76_condition
  rw [if_pos (is_b1 hb), show (2 : Int32) = i3 2 from rfl, i3_mul, i3_add, mjBp_some, e5 (is_b2 hb 4 (by omega)) ((is_trm hb).2 1 (by omega)) (by omega) (by omega), mjBp_some, show ((r : Int) * 2 + p).toNat = 2 * r + p by omega, hx, show (700 : Int32) = i3 700 from rfl, min_i3 (by omega), Int.min_eq_left (by omega)]
theorem e85 (hb : b = 2 ∨ b = 92) (ho : okS S) (hoc : okC S) (hf : ∀ k, k ≤ 10 → -2147483648 ≤ fk k ∧ fk k ≤ 2147483647) (ht : cTr Z b S) {r p : Nat} (hr : r < sR S) (hp : p < 2) (hlt : sFr S r p < sTo S r p) (hF : ∀ k, k ≤ 10 → Z.1 191 k = i3 (fk k)) : ∃ Z1, f85_isSo (b + 1) (i3 r) (i3 p) Z = some (i3 (if vS S fk (sTo S r p - 1) = 1 then 1 else 0), Z1) ∧ eqV Z Z1 ∧ ∀ j, sFr S r p ≤ j → j < sTo S r p → Z1.2.1 192 j = i6 (vS S fk j) := by
  have o1 := ok_sc ho
  obtain ⟨c1, c2, c3, c4, c5, c6⟩ := hoc r p hr hp
  obtain ⟨t1, t2⟩ := ht r p hr hp
  rw [if_pos hlt] at t2
  obtain ⟨Z1, g1, g2, g3⟩ := e85h hb hf (c6 hlt).1 c4 (sTo S r p - sFr S r p) (sFr S r p) mjF Z (by omega) (by unfold mjF; omega) (Nat.le_refl _) hF t1 (fun j h1 h2 => by omega)
  refine ⟨Z1, ?_, g2, g3⟩
  unfold f85_isSo
  rw [if_pos (is_b1 hb), e77 hb (by omega) hp, mjBp_some, t2.1, e78 hb (by omega) hp t2.2.1 (by omega), mjBp_some]
  exact g1
theorem e92 (hb : b = 2 ∨ b = 92) (ho : okS S) (hoc : okC S) (ht : cTr Z b S) {r p : Nat} (hr : r < sR S) (hp : p < 2) : f92_isTold (b + 1) (i3 r) (i3 p) Z = some (i3 (if sFr S r p < sTo S r p then 1 else 0)) := by
  have o1 := ok_sc ho
  obtain ⟨c1, c2, c3, c4, c5, c6⟩ := hoc r p hr hp
  obtain ⟨t1, t2⟩ := ht r p hr hp
  unfold f92_isTold
  rw [show (0 : Int32) = i3 0 from rfl, show (2 : Int32) = i3 2 from rfl, if_neg (by rw [c_lt (by omega)]; omega), if_neg (by rw [c_ge (by omega)]; omega), if_pos (is_b1 hb), e77 hb (by omega) hp, mjBp_some]
  by_cases q : sFr S r p < sTo S r p
  · rw [if_pos q] at t2
    rw [t2.1, e78 hb (by omega) hp t2.2.1 (by omega), mjBp_some, if_pos q, if_neg (by rw [c_ge (by omega)]; omega)]
    rfl
  · rw [if_neg q] at t2
    rw [t2.1, e78 hb (by omega) hp t2.2 (by omega), mjBp_some, if_neg q, if_pos (by decide)]
theorem e92n (x : Int32) {p : Int} (hp : -2147483648 ≤ p ∧ p ≤ 2147483647 ∧ (p < 0 ∨ 2 ≤ p)) : f92_isTold (b + 1) x (i3 p) Z = some (i3 0) := by
  unfold f92_isTold
  rw [show (0 : Int32) = i3 0 from rfl, show (2 : Int32) = i3 2 from rfl]
  by_cases q : p < 0
  · rw [if_pos (by rw [c_lt (by omega)]; omega)]
  · rw [if_neg (by rw [c_lt (by omega)]; omega), if_pos (by rw [c_ge (by omega)]; omega)]
end WK
