/-! LEAVES: rows of the class's small methods -/
section LF
variable {Z : mjZt} {b : Nat} {S : mjS}
theorem e5 {o n : Nat} {i : Int} (h1 : mjIs o 251 13 = true) (h2 : (mjLay o).2 = n) (hn : n ≤ 100000) (hi : 0 ≤ i ∧ i < n) : f5_at o (i3 i) Z = some (Z.1 o i.toNat) := by
  unfold f5_at
  simp (disch := omega) only [let_eq, mjBp_some, mjBd_some, n_0, n_1, n_2, n_3, n_4, n_5, n_6, n_7, n_8, n_9, n_10, n_11, n_12, n_13, n_16, n_20, n_21, n_22, n_23, n_30, n_31, n_32, n_40, n_41, n_42, n_43, n_45, n_48, n_50, n_51, n_52, n_57, n_59, n_60, n_61, n_62, n_63, n_72, n_97, n_99, n_100, n_108, n_120, n_122, n_123, n_125, n_127, n_180, n_255, n_400, n_700, n_999, n_9999, n_2000000, n_2147483647, i3_add, i3_sub, i3_mul, i3_neg, i3_div, max_i3, min_i3, c_lt_t, c_lt_f, c_ge_t, c_ge_f, c_gt_t, c_gt_f, c_le_t, c_le_f, c_eq_t, c_eq_f, c_ne_t, c_ne_f, in_t, ↓reduceIte, or_true, true_or, e3_t, e3_f, sw_t, sw_f, sj_t, sj_f, i36, lg6_lt, lg6_eq, lg6_gt, Int.add_sub_cancel, l_0, l_1, l_2, l_3, l_4, l_5, l_10, l_9999, h1, h2, ix_i3]
theorem e5_lo {o : Nat} {i : Int} (hi : i < 0 ∧ -2147483648 ≤ i) : f5_at o (i3 i) Z = some 0 := by
  unfold f5_at
  simp (disch := omega) only [n_0, c_lt_t, ↓reduceIte]
theorem e5_hi {o n : Nat} {i : Int} (h1 : mjIs o 251 13 = true) (h2 : (mjLay o).2 = n) (hn : n ≤ 100000) (hi : n ≤ i ∧ i ≤ 2147483647) : f5_at o (i3 i) Z = some 0 := by
  unfold f5_at
  simp (disch := omega) only [n_0, c_lt_f, i3_ofNat, c_ge_t, ↓reduceIte, h1, h2]
theorem e21 {o n : Nat} {i : Int} (h1 : mjIs o 251 14 = true) (h2 : (mjLay o).2 = n) (hn : n ≤ 100000) (hi : 0 ≤ i ∧ i < n) : f21_longAt o (i3 i) Z = some (Z.2.1 o i.toNat) := by
  unfold f21_longAt
  simp (disch := omega) only [n_0, c_lt_f, c_ge_f, i3_ofNat, ↓reduceIte, h1, h2, in_t, ix_i3]
theorem e21_lo {o : Nat} {i : Int} (hi : i < 0 ∧ -2147483648 ≤ i) : f21_longAt o (i3 i) Z = some 0 := by
  unfold f21_longAt
  simp (disch := omega) only [n_0, c_lt_t, ↓reduceIte]
theorem e7 (h : cBk Z b S) (ho : okS S) {t : Int} (ht : -2147483648 ≤ t ∧ t ≤ 2147483647) : f7_hasTeam b (i3 t) Z = some (if 0 ≤ t ∧ t < sT S then i3 1 else i3 0) := by
  have o1 := ok_sc ho
  unfold f7_hasTeam
  rcases Int.lt_or_le t 0 with h1 | h1
  · rw [if_neg (c := 0 ≤ t ∧ _) (by omega)]
    simp (disch := omega) only [let_eq, mjBp_some, mjBd_some, n_0, n_1, n_2, n_3, n_4, n_5, n_6, n_7, n_8, n_9, n_10, n_11, n_12, n_13, n_16, n_20, n_21, n_22, n_23, n_30, n_31, n_32, n_40, n_41, n_42, n_43, n_45, n_48, n_50, n_51, n_52, n_57, n_59, n_60, n_61, n_62, n_63, n_72, n_97, n_99, n_100, n_108, n_120, n_122, n_123, n_125, n_127, n_180, n_255, n_400, n_700, n_999, n_9999, n_2000000, n_2147483647, i3_add, i3_sub, i3_mul, i3_neg, i3_div, max_i3, min_i3, c_lt_t, c_lt_f, c_ge_t, c_ge_f, c_gt_t, c_gt_f, c_le_t, c_le_f, c_eq_t, c_eq_f, c_ne_t, c_ne_f, in_t, ↓reduceIte, or_true, true_or, e3_t, e3_f, sw_t, sw_f, sj_t, sj_f, i36, lg6_lt, lg6_eq, lg6_gt, Int.add_sub_cancel, l_0, l_1, l_2, l_3, l_4, l_5, l_10, l_9999, is_b (b_b h)]
  · rcases Int.lt_or_le t (sT S) with h2 | h2
    · rw [if_pos (c := 0 ≤ t ∧ _) (by omega)]
      simp (disch := omega) only [let_eq, mjBp_some, mjBd_some, n_0, n_1, n_2, n_3, n_4, n_5, n_6, n_7, n_8, n_9, n_10, n_11, n_12, n_13, n_16, n_20, n_21, n_22, n_23, n_30, n_31, n_32, n_40, n_41, n_42, n_43, n_45, n_48, n_50, n_51, n_52, n_57, n_59, n_60, n_61, n_62, n_63, n_72, n_97, n_99, n_100, n_108, n_120, n_122, n_123, n_125, n_127, n_180, n_255, n_400, n_700, n_999, n_9999, n_2000000, n_2147483647, i3_add, i3_sub, i3_mul, i3_neg, i3_div, max_i3, min_i3, c_lt_t, c_lt_f, c_ge_t, c_ge_f, c_gt_t, c_gt_f, c_le_t, c_le_f, c_eq_t, c_eq_f, c_ne_t, c_ne_f, in_t, ↓reduceIte, or_true, true_or, e3_t, e3_f, sw_t, sw_f, sj_t, sj_f, i36, lg6_lt, lg6_eq, lg6_gt, Int.add_sub_cancel, l_0, l_1, l_2, l_3, l_4, l_5, l_10, l_9999, is_b (b_b h), b_T h]
    · rw [if_neg (c := 0 ≤ t ∧ _) (by omega)]
      simp (disch := omega) only [let_eq, mjBp_some, mjBd_some, n_0, n_1, n_2, n_3, n_4, n_5, n_6, n_7, n_8, n_9, n_10, n_11, n_12, n_13, n_16, n_20, n_21, n_22, n_23, n_30, n_31, n_32, n_40, n_41, n_42, n_43, n_45, n_48, n_50, n_51, n_52, n_57, n_59, n_60, n_61, n_62, n_63, n_72, n_97, n_99, n_100, n_108, n_120, n_122, n_123, n_125, n_127, n_180, n_255, n_400, n_700, n_999, n_9999, n_2000000, n_2147483647, i3_add, i3_sub, i3_mul, i3_neg, i3_div, max_i3, min_i3, c_lt_t, c_lt_f, c_ge_t, c_ge_f, c_gt_t, c_gt_f, c_le_t, c_le_f, c_eq_t, c_eq_f, c_ne_t, c_ne_f, in_t, ↓reduceIte, or_true, true_or, e3_t, e3_f, sw_t, sw_f, sj_t, sj_f, i36, lg6_lt, lg6_eq, lg6_gt, Int.add_sub_cancel, l_0, l_1, l_2, l_3, l_4, l_5, l_10, l_9999, is_b (b_b h), b_T h]
theorem e7t (h : cBk Z b S) (ho : okS S) {t : Nat} (ht : t < sT S) : f7_hasTeam b (i3 t) Z = some (i3 1) := by
  have o1 := ok_sc ho
  rw [e7 h ho (by omega), if_pos (by omega)]
theorem e8 (h : cBk Z b S) (ho : okS S) {t : Nat} (ht : t < sT S) : f8_runner b (i3 t) Z = some (tmB b t) := by
  have o1 := ok_sc ho
  unfold f8_runner
  simp (disch := omega) only [let_eq, mjBp_some, mjBd_some, n_0, n_1, n_2, n_3, n_4, n_5, n_6, n_7, n_8, n_9, n_10, n_11, n_12, n_13, n_16, n_20, n_21, n_22, n_23, n_30, n_31, n_32, n_40, n_41, n_42, n_43, n_45, n_48, n_50, n_51, n_52, n_57, n_59, n_60, n_61, n_62, n_63, n_72, n_97, n_99, n_100, n_108, n_120, n_122, n_123, n_125, n_127, n_180, n_255, n_400, n_700, n_999, n_9999, n_2000000, n_2147483647, i3_add, i3_sub, i3_mul, i3_neg, i3_div, max_i3, min_i3, c_lt_t, c_lt_f, c_ge_t, c_ge_f, c_gt_t, c_gt_f, c_le_t, c_le_f, c_eq_t, c_eq_f, c_ne_t, c_ne_f, in_t, ↓reduceIte, or_true, true_or, e3_t, e3_f, sw_t, sw_f, sj_t, sj_f, i36, lg6_lt, lg6_eq, lg6_gt, Int.add_sub_cancel, l_0, l_1, l_2, l_3, l_4, l_5, l_10, l_9999, is_b (b_b h), e7t h ho ht, (is_b8 (b_b h)).1, (is_b8 (b_b h)).2, ix_nat]
  simp only [tmB, Option.some.injEq]
theorem e8n (h : cBk Z b S) (ho : okS S) {t : Int} (ht : -2147483648 ≤ t ∧ t ≤ 2147483647) (hn : t < 0 ∨ sT S ≤ t) : f8_runner b (i3 t) Z = some (b + 12) := by
  have o1 := ok_sc ho
  unfold f8_runner
  rw [e7 h ho ht, if_neg (by omega)]
  simp (disch := omega) only [let_eq, mjBp_some, mjBd_some, n_0, n_1, n_2, n_3, n_4, n_5, n_6, n_7, n_8, n_9, n_10, n_11, n_12, n_13, n_16, n_20, n_21, n_22, n_23, n_30, n_31, n_32, n_40, n_41, n_42, n_43, n_45, n_48, n_50, n_51, n_52, n_57, n_59, n_60, n_61, n_62, n_63, n_72, n_97, n_99, n_100, n_108, n_120, n_122, n_123, n_125, n_127, n_180, n_255, n_400, n_700, n_999, n_9999, n_2000000, n_2147483647, i3_add, i3_sub, i3_mul, i3_neg, i3_div, max_i3, min_i3, c_lt_t, c_lt_f, c_ge_t, c_ge_f, c_gt_t, c_gt_f, c_le_t, c_le_f, c_eq_t, c_eq_f, c_ne_t, c_ne_f, in_t, ↓reduceIte, or_true, true_or, e3_t, e3_f, sw_t, sw_f, sj_t, sj_f, i36, lg6_lt, lg6_eq, lg6_gt, Int.add_sub_cancel, l_0, l_1, l_2, l_3, l_4, l_5, l_10, l_9999, is_b (b_b h)]
theorem e6 (hb : b = 2 ∨ b = 92) {a : Nat} (ha : a < 42) : f6_deed b (i3 a) Z = some (acB b a) := by
  unfold f6_deed
  simp (disch := omega) only [let_eq, mjBp_some, mjBd_some, n_0, n_1, n_2, n_3, n_4, n_5, n_6, n_7, n_8, n_9, n_10, n_11, n_12, n_13, n_16, n_20, n_21, n_22, n_23, n_30, n_31, n_32, n_40, n_41, n_42, n_43, n_45, n_48, n_50, n_51, n_52, n_57, n_59, n_60, n_61, n_62, n_63, n_72, n_97, n_99, n_100, n_108, n_120, n_122, n_123, n_125, n_127, n_180, n_255, n_400, n_700, n_999, n_9999, n_2000000, n_2147483647, i3_add, i3_sub, i3_mul, i3_neg, i3_div, max_i3, min_i3, c_lt_t, c_lt_f, c_ge_t, c_ge_f, c_gt_t, c_gt_f, c_le_t, c_le_f, c_eq_t, c_eq_f, c_ne_t, c_ne_f, in_t, ↓reduceIte, or_true, true_or, e3_t, e3_f, sw_t, sw_f, sj_t, sj_f, i36, lg6_lt, lg6_eq, lg6_gt, Int.add_sub_cancel, l_0, l_1, l_2, l_3, l_4, l_5, l_10, l_9999, is_b hb, (is_b9 hb).1, (is_b9 hb).2, ix_nat]
  simp only [acB, Option.some.injEq]
theorem e16 (h : cBk Z b S) (ho : okS S) {t : Int} (ht : -2147483648 ≤ t ∧ t ≤ 2147483647) : f16_hasRule b (i3 t) Z = some (if 0 ≤ t ∧ t < sR S then i3 1 else i3 0) := by
  have o1 := ok_sc ho
  unfold f16_hasRule
  rcases Int.lt_or_le t 0 with h1 | h1
  · rw [if_neg (c := 0 ≤ t ∧ _) (by omega)]
    simp (disch := omega) only [let_eq, mjBp_some, mjBd_some, n_0, n_1, n_2, n_3, n_4, n_5, n_6, n_7, n_8, n_9, n_10, n_11, n_12, n_13, n_16, n_20, n_21, n_22, n_23, n_30, n_31, n_32, n_40, n_41, n_42, n_43, n_45, n_48, n_50, n_51, n_52, n_57, n_59, n_60, n_61, n_62, n_63, n_72, n_97, n_99, n_100, n_108, n_120, n_122, n_123, n_125, n_127, n_180, n_255, n_400, n_700, n_999, n_9999, n_2000000, n_2147483647, i3_add, i3_sub, i3_mul, i3_neg, i3_div, max_i3, min_i3, c_lt_t, c_lt_f, c_ge_t, c_ge_f, c_gt_t, c_gt_f, c_le_t, c_le_f, c_eq_t, c_eq_f, c_ne_t, c_ne_f, in_t, ↓reduceIte, or_true, true_or, e3_t, e3_f, sw_t, sw_f, sj_t, sj_f, i36, lg6_lt, lg6_eq, lg6_gt, Int.add_sub_cancel, l_0, l_1, l_2, l_3, l_4, l_5, l_10, l_9999, is_b (b_b h)]
  · rcases Int.lt_or_le t (sR S) with h2 | h2
    · rw [if_pos (c := 0 ≤ t ∧ _) (by omega)]
      simp (disch := omega) only [let_eq, mjBp_some, mjBd_some, n_0, n_1, n_2, n_3, n_4, n_5, n_6, n_7, n_8, n_9, n_10, n_11, n_12, n_13, n_16, n_20, n_21, n_22, n_23, n_30, n_31, n_32, n_40, n_41, n_42, n_43, n_45, n_48, n_50, n_51, n_52, n_57, n_59, n_60, n_61, n_62, n_63, n_72, n_97, n_99, n_100, n_108, n_120, n_122, n_123, n_125, n_127, n_180, n_255, n_400, n_700, n_999, n_9999, n_2000000, n_2147483647, i3_add, i3_sub, i3_mul, i3_neg, i3_div, max_i3, min_i3, c_lt_t, c_lt_f, c_ge_t, c_ge_f, c_gt_t, c_gt_f, c_le_t, c_le_f, c_eq_t, c_eq_f, c_ne_t, c_ne_f, in_t, ↓reduceIte, or_true, true_or, e3_t, e3_f, sw_t, sw_f, sj_t, sj_f, i36, lg6_lt, lg6_eq, lg6_gt, Int.add_sub_cancel, l_0, l_1, l_2, l_3, l_4, l_5, l_10, l_9999, is_b (b_b h), b_R h]
    · rw [if_neg (c := 0 ≤ t ∧ _) (by omega)]
      simp (disch := omega) only [let_eq, mjBp_some, mjBd_some, n_0, n_1, n_2, n_3, n_4, n_5, n_6, n_7, n_8, n_9, n_10, n_11, n_12, n_13, n_16, n_20, n_21, n_22, n_23, n_30, n_31, n_32, n_40, n_41, n_42, n_43, n_45, n_48, n_50, n_51, n_52, n_57, n_59, n_60, n_61, n_62, n_63, n_72, n_97, n_99, n_100, n_108, n_120, n_122, n_123, n_125, n_127, n_180, n_255, n_400, n_700, n_999, n_9999, n_2000000, n_2147483647, i3_add, i3_sub, i3_mul, i3_neg, i3_div, max_i3, min_i3, c_lt_t, c_lt_f, c_ge_t, c_ge_f, c_gt_t, c_gt_f, c_le_t, c_le_f, c_eq_t, c_eq_f, c_ne_t, c_ne_f, in_t, ↓reduceIte, or_true, true_or, e3_t, e3_f, sw_t, sw_f, sj_t, sj_f, i36, lg6_lt, lg6_eq, lg6_gt, Int.add_sub_cancel, l_0, l_1, l_2, l_3, l_4, l_5, l_10, l_9999, is_b (b_b h), b_R h]
theorem e17 (h : cBk Z b S) (hd : cDr Z b S) (ho : okS S) {t : Int} (ht : -2147483648 ≤ t ∧ t ≤ 2147483647) : f17_hasAct b (i3 t) Z = some (if 0 ≤ t ∧ t < sAll S then i3 1 else i3 0) := by
  have o1 := all_le ho
  unfold f17_hasAct
  rcases Int.lt_or_le t 0 with h1 | h1
  · rw [if_neg (c := 0 ≤ t ∧ _) (by omega)]
    simp (disch := omega) only [let_eq, mjBp_some, mjBd_some, n_0, n_1, n_2, n_3, n_4, n_5, n_6, n_7, n_8, n_9, n_10, n_11, n_12, n_13, n_16, n_20, n_21, n_22, n_23, n_30, n_31, n_32, n_40, n_41, n_42, n_43, n_45, n_48, n_50, n_51, n_52, n_57, n_59, n_60, n_61, n_62, n_63, n_72, n_97, n_99, n_100, n_108, n_120, n_122, n_123, n_125, n_127, n_180, n_255, n_400, n_700, n_999, n_9999, n_2000000, n_2147483647, i3_add, i3_sub, i3_mul, i3_neg, i3_div, max_i3, min_i3, c_lt_t, c_lt_f, c_ge_t, c_ge_f, c_gt_t, c_gt_f, c_le_t, c_le_f, c_eq_t, c_eq_f, c_ne_t, c_ne_f, in_t, ↓reduceIte, or_true, true_or, e3_t, e3_f, sw_t, sw_f, sj_t, sj_f, i36, lg6_lt, lg6_eq, lg6_gt, Int.add_sub_cancel, l_0, l_1, l_2, l_3, l_4, l_5, l_10, l_9999, is_b (b_b h)]
  · rcases Int.lt_or_le t (sAll S) with h2 | h2
    · rw [if_pos (c := 0 ≤ t ∧ _) (by omega)]
      simp (disch := omega) only [let_eq, mjBp_some, mjBd_some, n_0, n_1, n_2, n_3, n_4, n_5, n_6, n_7, n_8, n_9, n_10, n_11, n_12, n_13, n_16, n_20, n_21, n_22, n_23, n_30, n_31, n_32, n_40, n_41, n_42, n_43, n_45, n_48, n_50, n_51, n_52, n_57, n_59, n_60, n_61, n_62, n_63, n_72, n_97, n_99, n_100, n_108, n_120, n_122, n_123, n_125, n_127, n_180, n_255, n_400, n_700, n_999, n_9999, n_2000000, n_2147483647, i3_add, i3_sub, i3_mul, i3_neg, i3_div, max_i3, min_i3, c_lt_t, c_lt_f, c_ge_t, c_ge_f, c_gt_t, c_gt_f, c_le_t, c_le_f, c_eq_t, c_eq_f, c_ne_t, c_ne_f, in_t, ↓reduceIte, or_true, true_or, e3_t, e3_f, sw_t, sw_f, sj_t, sj_f, i36, lg6_lt, lg6_eq, lg6_gt, Int.add_sub_cancel, l_0, l_1, l_2, l_3, l_4, l_5, l_10, l_9999, is_b (b_b h), d_all hd]
    · rw [if_neg (c := 0 ≤ t ∧ _) (by omega)]
      simp (disch := omega) only [let_eq, mjBp_some, mjBd_some, n_0, n_1, n_2, n_3, n_4, n_5, n_6, n_7, n_8, n_9, n_10, n_11, n_12, n_13, n_16, n_20, n_21, n_22, n_23, n_30, n_31, n_32, n_40, n_41, n_42, n_43, n_45, n_48, n_50, n_51, n_52, n_57, n_59, n_60, n_61, n_62, n_63, n_72, n_97, n_99, n_100, n_108, n_120, n_122, n_123, n_125, n_127, n_180, n_255, n_400, n_700, n_999, n_9999, n_2000000, n_2147483647, i3_add, i3_sub, i3_mul, i3_neg, i3_div, max_i3, min_i3, c_lt_t, c_lt_f, c_ge_t, c_ge_f, c_gt_t, c_gt_f, c_le_t, c_le_f, c_eq_t, c_eq_f, c_ne_t, c_ne_f, in_t, ↓reduceIte, or_true, true_or, e3_t, e3_f, sw_t, sw_f, sj_t, sj_f, i36, lg6_lt, lg6_eq, lg6_gt, Int.add_sub_cancel, l_0, l_1, l_2, l_3, l_4, l_5, l_10, l_9999, is_b (b_b h), d_all hd]
theorem e18 (h : cBk Z b S) (ho : okS S) {t : Int} (ht : -2147483648 ≤ t ∧ t ≤ 2147483647) : f18_wasTold b (i3 t) Z = some (if 0 ≤ t ∧ t < sA S then i3 1 else i3 0) := by
  have o1 := ok_sc ho
  unfold f18_wasTold
  rcases Int.lt_or_le t 0 with h1 | h1
  · rw [if_neg (c := 0 ≤ t ∧ _) (by omega)]
    simp (disch := omega) only [let_eq, mjBp_some, mjBd_some, n_0, n_1, n_2, n_3, n_4, n_5, n_6, n_7, n_8, n_9, n_10, n_11, n_12, n_13, n_16, n_20, n_21, n_22, n_23, n_30, n_31, n_32, n_40, n_41, n_42, n_43, n_45, n_48, n_50, n_51, n_52, n_57, n_59, n_60, n_61, n_62, n_63, n_72, n_97, n_99, n_100, n_108, n_120, n_122, n_123, n_125, n_127, n_180, n_255, n_400, n_700, n_999, n_9999, n_2000000, n_2147483647, i3_add, i3_sub, i3_mul, i3_neg, i3_div, max_i3, min_i3, c_lt_t, c_lt_f, c_ge_t, c_ge_f, c_gt_t, c_gt_f, c_le_t, c_le_f, c_eq_t, c_eq_f, c_ne_t, c_ne_f, in_t, ↓reduceIte, or_true, true_or, e3_t, e3_f, sw_t, sw_f, sj_t, sj_f, i36, lg6_lt, lg6_eq, lg6_gt, Int.add_sub_cancel, l_0, l_1, l_2, l_3, l_4, l_5, l_10, l_9999, is_b (b_b h)]
  · rcases Int.lt_or_le t (sA S) with h2 | h2
    · rw [if_pos (c := 0 ≤ t ∧ _) (by omega)]
      simp (disch := omega) only [let_eq, mjBp_some, mjBd_some, n_0, n_1, n_2, n_3, n_4, n_5, n_6, n_7, n_8, n_9, n_10, n_11, n_12, n_13, n_16, n_20, n_21, n_22, n_23, n_30, n_31, n_32, n_40, n_41, n_42, n_43, n_45, n_48, n_50, n_51, n_52, n_57, n_59, n_60, n_61, n_62, n_63, n_72, n_97, n_99, n_100, n_108, n_120, n_122, n_123, n_125, n_127, n_180, n_255, n_400, n_700, n_999, n_9999, n_2000000, n_2147483647, i3_add, i3_sub, i3_mul, i3_neg, i3_div, max_i3, min_i3, c_lt_t, c_lt_f, c_ge_t, c_ge_f, c_gt_t, c_gt_f, c_le_t, c_le_f, c_eq_t, c_eq_f, c_ne_t, c_ne_f, in_t, ↓reduceIte, or_true, true_or, e3_t, e3_f, sw_t, sw_f, sj_t, sj_f, i36, lg6_lt, lg6_eq, lg6_gt, Int.add_sub_cancel, l_0, l_1, l_2, l_3, l_4, l_5, l_10, l_9999, is_b (b_b h), b_A h]
    · rw [if_neg (c := 0 ≤ t ∧ _) (by omega)]
      simp (disch := omega) only [let_eq, mjBp_some, mjBd_some, n_0, n_1, n_2, n_3, n_4, n_5, n_6, n_7, n_8, n_9, n_10, n_11, n_12, n_13, n_16, n_20, n_21, n_22, n_23, n_30, n_31, n_32, n_40, n_41, n_42, n_43, n_45, n_48, n_50, n_51, n_52, n_57, n_59, n_60, n_61, n_62, n_63, n_72, n_97, n_99, n_100, n_108, n_120, n_122, n_123, n_125, n_127, n_180, n_255, n_400, n_700, n_999, n_9999, n_2000000, n_2147483647, i3_add, i3_sub, i3_mul, i3_neg, i3_div, max_i3, min_i3, c_lt_t, c_lt_f, c_ge_t, c_ge_f, c_gt_t, c_gt_f, c_le_t, c_le_f, c_eq_t, c_eq_f, c_ne_t, c_ne_f, in_t, ↓reduceIte, or_true, true_or, e3_t, e3_f, sw_t, sw_f, sj_t, sj_f, i36, lg6_lt, lg6_eq, lg6_gt, Int.add_sub_cancel, l_0, l_1, l_2, l_3, l_4, l_5, l_10, l_9999, is_b (b_b h), b_A h]
end LF
