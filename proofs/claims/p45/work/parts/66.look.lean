/-! FACTS, as the class's judge has them -/
def eqF (Z Z2 : mjZt) : Prop := Z2.2 = Z.2 ∧ ∀ o, o ≠ 191 → Z2.1 o = Z.1 o
theorem eqF_rf {Z : mjZt} : eqF Z Z := ⟨rfl, fun _ _ => rfl⟩
theorem eqF_si {Z Z2 : mjZt} {k : Nat} {v : Int32} (h : eqF Z Z2) : eqF Z (zSi Z2 191 k v) := ⟨h.1, fun o ho => (si_obj Z2 191 k v (by omega)).trans (h.2 o ho)⟩
theorem eqF_tr {Z Z2 Z3 : mjZt} (h : eqF Z Z2) (g : eqF Z2 Z3) : eqF Z Z3 := ⟨g.1.trans h.1, fun o ho => (g.2 o ho).trans (h.2 o ho)⟩
theorem eqF_q {Z Z2 : mjZt} (h : eqF Z Z2) : eqQ Z Z2 := ⟨by rw [h.1], fun a h1 h2 => ⟨h.2 a (by unfold scr at h1; omega), by rw [h.1]⟩, fun f hf => by rw [h.2 211 (by omega)], by rw [h.1]⟩
section LK
variable {b : Nat} {S : mjS} {Z : mjZt}
def eaP (S : mjS) (a : Nat) (te : Int) (c : Nat) : Bool := decide (c ≠ a ∧ (sTe S c < te ∨ (sTe S c = te ∧ c < a)) ∧ sKd S c = sKd S a ∧ sTmA S c = sTmA S a)
def fcP (S : mjS) (a : Nat) (te : Int) (c : Nat) : Bool := decide (te - 20 ≤ sTe S c ∧ sTe S c ≤ te ∧ sKd S c = 3 ∧ sOt S c = sTmA S a)
/-- a bit more -/
theorem or_bit {x : Int64} {i : Nat} (hi : i < 64) {P : Nat → Bool} (h : ∀ j, j < 64 → b6 x j = (decide (j < i) && P j)) : ∀ j, j < 64 → b6 (if P i = true then x ||| (i6 1 <<< ((i3 i).toInt64 &&& 63)) else x) j = (decide (j < i + 1) && P j) := by
  intro j hj
  by_cases q : j = i
  · subst q
    cases q2 : P j with
    | true => rw [if_pos rfl, b6_or, b6_single hj hj]; simp
    | false => rw [if_neg (by decide), h j hj, q2]; simp
  · have e : decide (j < i + 1) = decide (j < i) := by
      by_cases q3 : j < i
      · rw [decide_eq_true q3, decide_eq_true (by omega)]
      · rw [decide_eq_false q3, decide_eq_false (by omega)]
    rw [e, ← h j hj]
    split
    · rw [b6_or, b6_single hi hj, decide_eq_false q, Bool.or_false]
    · rfl
theorem e41h (h : cBk Z b S) (hd : cDr Z b S) (ho : okS S) {a : Nat} (ha : a < sAll S) {te : Int} (ht : 0 ≤ te ∧ te ≤ 9999) : ∀ f i n (x : Int64), i + f = sAll S → f < n → (∀ j, j < 64 → b6 x j = (decide (j < i) && eaP S a te j)) → ∃ y, f41_earlier_h12 n b (i3 a) (i3 te) (acB b a) x (i3 i) Z = some y ∧ ∀ j, j < 64 → b6 y j = (decide (j < sAll S) && eaP S a te j)
  | f, i, 0, x, _, hn, _ => by omega
  | 0, i, n + 1, x, hf, _, hx => by
    obtain rfl : i = sAll S := by omega
    have o2 := all_le ho
    refine ⟨x, ?_, hx⟩
    rw [f41_earlier_h12]
    simp (disch := omega) only [let_eq, mjBp_some, mjBd_some, n_0, n_1, n_2, n_3, n_4, n_5, n_6, n_7, n_8, n_9, n_10, n_11, n_12, n_13, n_16, n_20, n_21, n_22, n_23, n_30, n_31, n_32, n_40, n_41, n_42, n_43, n_45, n_48, n_50, n_51, n_52, n_57, n_59, n_60, n_61, n_62, n_63, n_72, n_97, n_99, n_100, n_108, n_120, n_122, n_123, n_125, n_127, n_180, n_255, n_400, n_700, n_999, n_9999, n_2000000, n_2147483647, i3_add, i3_sub, i3_mul, i3_neg, i3_div, max_i3, min_i3, i6_add, i6_sub, i6_mul, i6_neg, c_lt_t, c_lt_f, c_ge_t, c_ge_f, c_gt_t, c_gt_f, c_le_t, c_le_f, c_eq_t, c_eq_f, c_ne_t, c_ne_f, in_t, i3_ofNat, ↓reduceIte, or_true, true_or, or_false, false_or, and_true, true_and, and_false, false_and, decide_true, decide_false, Bool.false_eq_true, not_true_eq_false, not_false_eq_true, Bool.true_and, Bool.false_and, Bool.and_true, Bool.and_false, Bool.true_or, Bool.false_or, Bool.or_true, Bool.or_false, e3_t, e3_f, sw_t, sw_f, sj_t, sj_f, i36, lg6_lt, lg6_eq, lg6_gt, Int.add_sub_cancel, l_0, l_1, l_2, l_3, l_4, l_5, l_10, l_9999, is_b (b_b h), d_all hd]
  | f + 1, i, n + 1, x, hf, hn, hx => by
    have hi : i < sAll S := by omega
    have o2 := all_le ho
    have hb := b_b h
    obtain ⟨r1, r2, r3, r4, r5⟩ := d_ac hd hi
    obtain ⟨s1, s2, s3, s4, s5⟩ := d_ac hd ha
    have k1 := kd_bd ho (a := i)
    have k2 := kd_bd ho (a := a)
    have t1 := tmA_lt ho hi
    have t2 := tmA_lt ho ha
    have u1 := te_bd ho hi
    have o1 := ok_sc ho
    obtain ⟨y, hy1, hy2⟩ := e41h h hd ho ha ht f (i + 1) n _ (by omega) (by omega) (or_bit (by omega) hx)
    refine ⟨y, ?_, hy2⟩
    rw [← hy1, f41_earlier_h12, if_pos (is_b hb), d_all hd, if_neg (by rw [c_ge (by omega)]; omega), e6 hb (by omega), mjBp_some, if_pos (is_ac hb i (by omega)), r4]
    unfold f41_earlier_j53 f41_earlier_j57 f41_earlier_j58
    simp only [is_ac hb i (by omega), is_ac hb a (by omega), r1, r2, s1, s2, if_true]
    rw [show (1 : Int64) = i6 1 from rfl]
    by_cases q1 : sTe S i < te ∨ (sTe S i = te ∧ i < a)
    · by_cases q2 : i = a
      · have e : eaP S a te i = false := by simp [eaP, q2]
        rw [e]
        simp only [Bool.false_eq_true, if_false]
        rcases q1 with q1 | q1
        · simp (disch := omega) only [let_eq, mjBp_some, mjBd_some, n_0, n_1, n_2, n_3, n_4, n_5, n_6, n_7, n_8, n_9, n_10, n_11, n_12, n_13, n_16, n_20, n_21, n_22, n_23, n_30, n_31, n_32, n_40, n_41, n_42, n_43, n_45, n_48, n_50, n_51, n_52, n_57, n_59, n_60, n_61, n_62, n_63, n_72, n_97, n_99, n_100, n_108, n_120, n_122, n_123, n_125, n_127, n_180, n_255, n_400, n_700, n_999, n_9999, n_2000000, n_2147483647, i3_add, i3_sub, i3_mul, i3_neg, i3_div, max_i3, min_i3, i6_add, i6_sub, i6_mul, i6_neg, c_lt_t, c_lt_f, c_ge_t, c_ge_f, c_gt_t, c_gt_f, c_le_t, c_le_f, c_eq_t, c_eq_f, c_ne_t, c_ne_f, in_t, i3_ofNat, ↓reduceIte, or_true, true_or, or_false, false_or, and_true, true_and, and_false, false_and, decide_true, decide_false, Bool.false_eq_true, not_true_eq_false, not_false_eq_true, Bool.true_and, Bool.false_and, Bool.and_true, Bool.and_false, Bool.true_or, Bool.false_or, Bool.or_true, Bool.or_false, e3_t, e3_f, sw_t, sw_f, sj_t, sj_f, i36, lg6_lt, lg6_eq, lg6_gt, Int.add_sub_cancel, l_0, l_1, l_2, l_3, l_4, l_5, l_10, l_9999]
          rfl
        · omega
      · by_cases q3 : sKd S i = sKd S a
        · by_cases q4 : sTmA S i = sTmA S a
          · have e : eaP S a te i = true := by simp [eaP, q1, q2, q3, q4]
            rw [e]
            simp only [if_true]
            rcases q1 with q1 | q1
            · simp (disch := omega) only [let_eq, mjBp_some, mjBd_some, n_0, n_1, n_2, n_3, n_4, n_5, n_6, n_7, n_8, n_9, n_10, n_11, n_12, n_13, n_16, n_20, n_21, n_22, n_23, n_30, n_31, n_32, n_40, n_41, n_42, n_43, n_45, n_48, n_50, n_51, n_52, n_57, n_59, n_60, n_61, n_62, n_63, n_72, n_97, n_99, n_100, n_108, n_120, n_122, n_123, n_125, n_127, n_180, n_255, n_400, n_700, n_999, n_9999, n_2000000, n_2147483647, i3_add, i3_sub, i3_mul, i3_neg, i3_div, max_i3, min_i3, i6_add, i6_sub, i6_mul, i6_neg, c_lt_t, c_lt_f, c_ge_t, c_ge_f, c_gt_t, c_gt_f, c_le_t, c_le_f, c_eq_t, c_eq_f, c_ne_t, c_ne_f, in_t, i3_ofNat, ↓reduceIte, or_true, true_or, or_false, false_or, and_true, true_and, and_false, false_and, decide_true, decide_false, Bool.false_eq_true, not_true_eq_false, not_false_eq_true, Bool.true_and, Bool.false_and, Bool.and_true, Bool.and_false, Bool.true_or, Bool.false_or, Bool.or_true, Bool.or_false, e3_t, e3_f, sw_t, sw_f, sj_t, sj_f, i36, lg6_lt, lg6_eq, lg6_gt, Int.add_sub_cancel, l_0, l_1, l_2, l_3, l_4, l_5, l_10, l_9999]
              rfl
            · simp (disch := omega) only [let_eq, mjBp_some, mjBd_some, n_0, n_1, n_2, n_3, n_4, n_5, n_6, n_7, n_8, n_9, n_10, n_11, n_12, n_13, n_16, n_20, n_21, n_22, n_23, n_30, n_31, n_32, n_40, n_41, n_42, n_43, n_45, n_48, n_50, n_51, n_52, n_57, n_59, n_60, n_61, n_62, n_63, n_72, n_97, n_99, n_100, n_108, n_120, n_122, n_123, n_125, n_127, n_180, n_255, n_400, n_700, n_999, n_9999, n_2000000, n_2147483647, i3_add, i3_sub, i3_mul, i3_neg, i3_div, max_i3, min_i3, i6_add, i6_sub, i6_mul, i6_neg, c_lt_t, c_lt_f, c_ge_t, c_ge_f, c_gt_t, c_gt_f, c_le_t, c_le_f, c_eq_t, c_eq_f, c_ne_t, c_ne_f, in_t, i3_ofNat, ↓reduceIte, or_true, true_or, or_false, false_or, and_true, true_and, and_false, false_and, decide_true, decide_false, Bool.false_eq_true, not_true_eq_false, not_false_eq_true, Bool.true_and, Bool.false_and, Bool.and_true, Bool.and_false, Bool.true_or, Bool.false_or, Bool.or_true, Bool.or_false, e3_t, e3_f, sw_t, sw_f, sj_t, sj_f, i36, lg6_lt, lg6_eq, lg6_gt, Int.add_sub_cancel, l_0, l_1, l_2, l_3, l_4, l_5, l_10, l_9999]
              rfl
          · have e : eaP S a te i = false := by simp [eaP, q4]
            rw [e]
            simp only [Bool.false_eq_true, if_false]
            rcases q1 with q1 | q1
            · simp (disch := omega) only [let_eq, mjBp_some, mjBd_some, n_0, n_1, n_2, n_3, n_4, n_5, n_6, n_7, n_8, n_9, n_10, n_11, n_12, n_13, n_16, n_20, n_21, n_22, n_23, n_30, n_31, n_32, n_40, n_41, n_42, n_43, n_45, n_48, n_50, n_51, n_52, n_57, n_59, n_60, n_61, n_62, n_63, n_72, n_97, n_99, n_100, n_108, n_120, n_122, n_123, n_125, n_127, n_180, n_255, n_400, n_700, n_999, n_9999, n_2000000, n_2147483647, i3_add, i3_sub, i3_mul, i3_neg, i3_div, max_i3, min_i3, i6_add, i6_sub, i6_mul, i6_neg, c_lt_t, c_lt_f, c_ge_t, c_ge_f, c_gt_t, c_gt_f, c_le_t, c_le_f, c_eq_t, c_eq_f, c_ne_t, c_ne_f, in_t, i3_ofNat, ↓reduceIte, or_true, true_or, or_false, false_or, and_true, true_and, and_false, false_and, decide_true, decide_false, Bool.false_eq_true, not_true_eq_false, not_false_eq_true, Bool.true_and, Bool.false_and, Bool.and_true, Bool.and_false, Bool.true_or, Bool.false_or, Bool.or_true, Bool.or_false, e3_t, e3_f, sw_t, sw_f, sj_t, sj_f, i36, lg6_lt, lg6_eq, lg6_gt, Int.add_sub_cancel, l_0, l_1, l_2, l_3, l_4, l_5, l_10, l_9999]
              rfl
            · simp (disch := omega) only [let_eq, mjBp_some, mjBd_some, n_0, n_1, n_2, n_3, n_4, n_5, n_6, n_7, n_8, n_9, n_10, n_11, n_12, n_13, n_16, n_20, n_21, n_22, n_23, n_30, n_31, n_32, n_40, n_41, n_42, n_43, n_45, n_48, n_50, n_51, n_52, n_57, n_59, n_60, n_61, n_62, n_63, n_72, n_97, n_99, n_100, n_108, n_120, n_122, n_123, n_125, n_127, n_180, n_255, n_400, n_700, n_999, n_9999, n_2000000, n_2147483647, i3_add, i3_sub, i3_mul, i3_neg, i3_div, max_i3, min_i3, i6_add, i6_sub, i6_mul, i6_neg, c_lt_t, c_lt_f, c_ge_t, c_ge_f, c_gt_t, c_gt_f, c_le_t, c_le_f, c_eq_t, c_eq_f, c_ne_t, c_ne_f, in_t, i3_ofNat, ↓reduceIte, or_true, true_or, or_false, false_or, and_true, true_and, and_false, false_and, decide_true, decide_false, Bool.false_eq_true, not_true_eq_false, not_false_eq_true, Bool.true_and, Bool.false_and, Bool.and_true, Bool.and_false, Bool.true_or, Bool.false_or, Bool.or_true, Bool.or_false, e3_t, e3_f, sw_t, sw_f, sj_t, sj_f, i36, lg6_lt, lg6_eq, lg6_gt, Int.add_sub_cancel, l_0, l_1, l_2, l_3, l_4, l_5, l_10, l_9999]
              rfl
        · have e : eaP S a te i = false := by simp [eaP, q3]
          rw [e]
          simp only [Bool.false_eq_true, if_false]
          rcases q1 with q1 | q1
          · simp (disch := omega) only [let_eq, mjBp_some, mjBd_some, n_0, n_1, n_2, n_3, n_4, n_5, n_6, n_7, n_8, n_9, n_10, n_11, n_12, n_13, n_16, n_20, n_21, n_22, n_23, n_30, n_31, n_32, n_40, n_41, n_42, n_43, n_45, n_48, n_50, n_51, n_52, n_57, n_59, n_60, n_61, n_62, n_63, n_72, n_97, n_99, n_100, n_108, n_120, n_122, n_123, n_125, n_127, n_180, n_255, n_400, n_700, n_999, n_9999, n_2000000, n_2147483647, i3_add, i3_sub, i3_mul, i3_neg, i3_div, max_i3, min_i3, i6_add, i6_sub, i6_mul, i6_neg, c_lt_t, c_lt_f, c_ge_t, c_ge_f, c_gt_t, c_gt_f, c_le_t, c_le_f, c_eq_t, c_eq_f, c_ne_t, c_ne_f, in_t, i3_ofNat, ↓reduceIte, or_true, true_or, or_false, false_or, and_true, true_and, and_false, false_and, decide_true, decide_false, Bool.false_eq_true, not_true_eq_false, not_false_eq_true, Bool.true_and, Bool.false_and, Bool.and_true, Bool.and_false, Bool.true_or, Bool.false_or, Bool.or_true, Bool.or_false, e3_t, e3_f, sw_t, sw_f, sj_t, sj_f, i36, lg6_lt, lg6_eq, lg6_gt, Int.add_sub_cancel, l_0, l_1, l_2, l_3, l_4, l_5, l_10, l_9999]
            rfl
          · simp (disch := omega) only [let_eq, mjBp_some, mjBd_some, n_0, n_1, n_2, n_3, n_4, n_5, n_6, n_7, n_8, n_9, n_10, n_11, n_12, n_13, n_16, n_20, n_21, n_22, n_23, n_30, n_31, n_32, n_40, n_41, n_42, n_43, n_45, n_48, n_50, n_51, n_52, n_57, n_59, n_60, n_61, n_62, n_63, n_72, n_97, n_99, n_100, n_108, n_120, n_122, n_123, n_125, n_127, n_180, n_255, n_400, n_700, n_999, n_9999, n_2000000, n_2147483647, i3_add, i3_sub, i3_mul, i3_neg, i3_div, max_i3, min_i3, i6_add, i6_sub, i6_mul, i6_neg, c_lt_t, c_lt_f, c_ge_t, c_ge_f, c_gt_t, c_gt_f, c_le_t, c_le_f, c_eq_t, c_eq_f, c_ne_t, c_ne_f, in_t, i3_ofNat, ↓reduceIte, or_true, true_or, or_false, false_or, and_true, true_and, and_false, false_and, decide_true, decide_false, Bool.false_eq_true, not_true_eq_false, not_false_eq_true, Bool.true_and, Bool.false_and, Bool.and_true, Bool.and_false, Bool.true_or, Bool.false_or, Bool.or_true, Bool.or_false, e3_t, e3_f, sw_t, sw_f, sj_t, sj_f, i36, lg6_lt, lg6_eq, lg6_gt, Int.add_sub_cancel, l_0, l_1, l_2, l_3, l_4, l_5, l_10, l_9999]
            rfl
    · have e : eaP S a te i = false := by simp only [eaP, q1, false_and, and_false, decide_false]
      rw [e]
      simp only [Bool.false_eq_true, if_false]
      by_cases q2 : i = a
      · by_cases q3 : sTe S i = te
        · simp (disch := omega) only [let_eq, mjBp_some, mjBd_some, n_0, n_1, n_2, n_3, n_4, n_5, n_6, n_7, n_8, n_9, n_10, n_11, n_12, n_13, n_16, n_20, n_21, n_22, n_23, n_30, n_31, n_32, n_40, n_41, n_42, n_43, n_45, n_48, n_50, n_51, n_52, n_57, n_59, n_60, n_61, n_62, n_63, n_72, n_97, n_99, n_100, n_108, n_120, n_122, n_123, n_125, n_127, n_180, n_255, n_400, n_700, n_999, n_9999, n_2000000, n_2147483647, i3_add, i3_sub, i3_mul, i3_neg, i3_div, max_i3, min_i3, i6_add, i6_sub, i6_mul, i6_neg, c_lt_t, c_lt_f, c_ge_t, c_ge_f, c_gt_t, c_gt_f, c_le_t, c_le_f, c_eq_t, c_eq_f, c_ne_t, c_ne_f, in_t, i3_ofNat, ↓reduceIte, or_true, true_or, or_false, false_or, and_true, true_and, and_false, false_and, decide_true, decide_false, Bool.false_eq_true, not_true_eq_false, not_false_eq_true, Bool.true_and, Bool.false_and, Bool.and_true, Bool.and_false, Bool.true_or, Bool.false_or, Bool.or_true, Bool.or_false, e3_t, e3_f, sw_t, sw_f, sj_t, sj_f, i36, lg6_lt, lg6_eq, lg6_gt, Int.add_sub_cancel, l_0, l_1, l_2, l_3, l_4, l_5, l_10, l_9999]
          rfl
        · simp (disch := omega) only [let_eq, mjBp_some, mjBd_some, n_0, n_1, n_2, n_3, n_4, n_5, n_6, n_7, n_8, n_9, n_10, n_11, n_12, n_13, n_16, n_20, n_21, n_22, n_23, n_30, n_31, n_32, n_40, n_41, n_42, n_43, n_45, n_48, n_50, n_51, n_52, n_57, n_59, n_60, n_61, n_62, n_63, n_72, n_97, n_99, n_100, n_108, n_120, n_122, n_123, n_125, n_127, n_180, n_255, n_400, n_700, n_999, n_9999, n_2000000, n_2147483647, i3_add, i3_sub, i3_mul, i3_neg, i3_div, max_i3, min_i3, i6_add, i6_sub, i6_mul, i6_neg, c_lt_t, c_lt_f, c_ge_t, c_ge_f, c_gt_t, c_gt_f, c_le_t, c_le_f, c_eq_t, c_eq_f, c_ne_t, c_ne_f, in_t, i3_ofNat, ↓reduceIte, or_true, true_or, or_false, false_or, and_true, true_and, and_false, false_and, decide_true, decide_false, Bool.false_eq_true, not_true_eq_false, not_false_eq_true, Bool.true_and, Bool.false_and, Bool.and_true, Bool.and_false, Bool.true_or, Bool.false_or, Bool.or_true, Bool.or_false, e3_t, e3_f, sw_t, sw_f, sj_t, sj_f, i36, lg6_lt, lg6_eq, lg6_gt, Int.add_sub_cancel, l_0, l_1, l_2, l_3, l_4, l_5, l_10, l_9999]
          rfl
      · by_cases q3 : sTe S i = te
        · simp (disch := omega) only [let_eq, mjBp_some, mjBd_some, n_0, n_1, n_2, n_3, n_4, n_5, n_6, n_7, n_8, n_9, n_10, n_11, n_12, n_13, n_16, n_20, n_21, n_22, n_23, n_30, n_31, n_32, n_40, n_41, n_42, n_43, n_45, n_48, n_50, n_51, n_52, n_57, n_59, n_60, n_61, n_62, n_63, n_72, n_97, n_99, n_100, n_108, n_120, n_122, n_123, n_125, n_127, n_180, n_255, n_400, n_700, n_999, n_9999, n_2000000, n_2147483647, i3_add, i3_sub, i3_mul, i3_neg, i3_div, max_i3, min_i3, i6_add, i6_sub, i6_mul, i6_neg, c_lt_t, c_lt_f, c_ge_t, c_ge_f, c_gt_t, c_gt_f, c_le_t, c_le_f, c_eq_t, c_eq_f, c_ne_t, c_ne_f, in_t, i3_ofNat, ↓reduceIte, or_true, true_or, or_false, false_or, and_true, true_and, and_false, false_and, decide_true, decide_false, Bool.false_eq_true, not_true_eq_false, not_false_eq_true, Bool.true_and, Bool.false_and, Bool.and_true, Bool.and_false, Bool.true_or, Bool.false_or, Bool.or_true, Bool.or_false, e3_t, e3_f, sw_t, sw_f, sj_t, sj_f, i36, lg6_lt, lg6_eq, lg6_gt, Int.add_sub_cancel, l_0, l_1, l_2, l_3, l_4, l_5, l_10, l_9999]
          rfl
        · simp (disch := omega) only [let_eq, mjBp_some, mjBd_some, n_0, n_1, n_2, n_3, n_4, n_5, n_6, n_7, n_8, n_9, n_10, n_11, n_12, n_13, n_16, n_20, n_21, n_22, n_23, n_30, n_31, n_32, n_40, n_41, n_42, n_43, n_45, n_48, n_50, n_51, n_52, n_57, n_59, n_60, n_61, n_62, n_63, n_72, n_97, n_99, n_100, n_108, n_120, n_122, n_123, n_125, n_127, n_180, n_255, n_400, n_700, n_999, n_9999, n_2000000, n_2147483647, i3_add, i3_sub, i3_mul, i3_neg, i3_div, max_i3, min_i3, i6_add, i6_sub, i6_mul, i6_neg, c_lt_t, c_lt_f, c_ge_t, c_ge_f, c_gt_t, c_gt_f, c_le_t, c_le_f, c_eq_t, c_eq_f, c_ne_t, c_ne_f, in_t, i3_ofNat, ↓reduceIte, or_true, true_or, or_false, false_or, and_true, true_and, and_false, false_and, decide_true, decide_false, Bool.false_eq_true, not_true_eq_false, not_false_eq_true, Bool.true_and, Bool.false_and, Bool.and_true, Bool.and_false, Bool.true_or, Bool.false_or, Bool.or_true, Bool.or_false, e3_t, e3_f, sw_t, sw_f, sj_t, sj_f, i36, lg6_lt, lg6_eq, lg6_gt, Int.add_sub_cancel, l_0, l_1, l_2, l_3, l_4, l_5, l_10, l_9999]
          rfl
theorem e41 (h : cBk Z b S) (hd : cDr Z b S) (ho : okS S) {a : Nat} (ha : a < sAll S) {te : Int} (ht : 0 ≤ te ∧ te ≤ 9999) : ∃ y, f41_earlier b (i3 a) (i3 te) Z = some y ∧ ∀ j, j < 64 → b6 y j = (decide (j < sAll S) && eaP S a te j) := by
  have o2 := all_le ho
  obtain ⟨y, h1, h2⟩ := e41h h hd ho ha ht (sAll S) 0 mjF 0 (by omega) (by unfold mjF; omega) (fun j _ => b6_0 j)
  refine ⟨y, ?_, h2⟩
  unfold f41_earlier
  rw [if_pos (is_b (b_b h)), e6 (b_b h) (by omega), mjBp_some]
  exact h1
theorem e42h (h : cBk Z b S) (hd : cDr Z b S) (ho : okS S) {a : Nat} (ha : a < sAll S) {te : Int} (ht : 0 ≤ te ∧ te ≤ 9999) : ∀ f i n (x : Int64), i + f = sA S → f < n → (∀ j, j < 64 → b6 x j = (decide (j < i) && fcP S a te j)) → ∃ y, f42_forcers_h15 n b (i3 te) (i3 (sTmA S a)) x (i3 i) Z = some y ∧ ∀ j, j < 64 → b6 y j = (decide (j < sA S) && fcP S a te j)
  | f, i, 0, x, _, hn, _ => by omega
  | 0, i, n + 1, x, hf, _, hx => by
    obtain rfl : i = sA S := by omega
    have o2 := ok_sc ho
    refine ⟨x, ?_, hx⟩
    rw [f42_forcers_h15]
    simp (disch := omega) only [let_eq, mjBp_some, mjBd_some, n_0, n_1, n_2, n_3, n_4, n_5, n_6, n_7, n_8, n_9, n_10, n_11, n_12, n_13, n_16, n_20, n_21, n_22, n_23, n_30, n_31, n_32, n_40, n_41, n_42, n_43, n_45, n_48, n_50, n_51, n_52, n_57, n_59, n_60, n_61, n_62, n_63, n_72, n_97, n_99, n_100, n_108, n_120, n_122, n_123, n_125, n_127, n_180, n_255, n_400, n_700, n_999, n_9999, n_2000000, n_2147483647, i3_add, i3_sub, i3_mul, i3_neg, i3_div, max_i3, min_i3, i6_add, i6_sub, i6_mul, i6_neg, c_lt_t, c_lt_f, c_ge_t, c_ge_f, c_gt_t, c_gt_f, c_le_t, c_le_f, c_eq_t, c_eq_f, c_ne_t, c_ne_f, in_t, i3_ofNat, ↓reduceIte, or_true, true_or, or_false, false_or, and_true, true_and, and_false, false_and, decide_true, decide_false, Bool.false_eq_true, not_true_eq_false, not_false_eq_true, Bool.true_and, Bool.false_and, Bool.and_true, Bool.and_false, Bool.true_or, Bool.false_or, Bool.or_true, Bool.or_false, e3_t, e3_f, sw_t, sw_f, sj_t, sj_f, i36, lg6_lt, lg6_eq, lg6_gt, Int.add_sub_cancel, l_0, l_1, l_2, l_3, l_4, l_5, l_10, l_9999, is_b (b_b h), b_A h]
  | f + 1, i, n + 1, x, hf, hn, hx => by
    have hi : i < sAll S := by unfold sAll; omega
    have o2 := all_le ho
    have o1 := ok_sc ho
    have hb := b_b h
    obtain ⟨r1, r2, r3, r4, r5⟩ := d_ac hd hi
    have k1 := kd_bd ho (a := i)
    have t2 := tmA_lt ho ha
    have u1 := te_bd ho hi
    have ob : -1 ≤ sOt S i ∧ sOt S i ≤ 5 := by
      rcases ot_cases ho (a := i) with ⟨q, _⟩ | ⟨o, q, q2, _⟩ <;> omega
    obtain ⟨y, hy1, hy2⟩ := e42h h hd ho ha ht f (i + 1) n _ (by omega) (by omega) (or_bit (by omega) hx)
    refine ⟨y, ?_, hy2⟩
    rw [← hy1, f42_forcers_h15, if_pos (is_b hb), b_A h, if_neg (by rw [c_ge (by omega)]; omega), e6 hb (by omega), mjBp_some, if_pos (is_ac hb i (by omega)), r4]
    unfold f42_forcers_j57 f42_forcers_j58
    simp only [is_ac hb i (by omega), r1, r3, if_true]
    rw [show (1 : Int64) = i6 1 from rfl]
    rcases (by omega : sTe S i < te - 20 ∨ te < sTe S i ∨ (te - 20 ≤ sTe S i ∧ sTe S i ≤ te)) with q | q | q
    · have e : fcP S a te i = false := by simp [fcP]; omega
      rw [e]
      simp only [Bool.false_eq_true, if_false]
      simp (disch := omega) only [let_eq, mjBp_some, mjBd_some, n_0, n_1, n_2, n_3, n_4, n_5, n_6, n_7, n_8, n_9, n_10, n_11, n_12, n_13, n_16, n_20, n_21, n_22, n_23, n_30, n_31, n_32, n_40, n_41, n_42, n_43, n_45, n_48, n_50, n_51, n_52, n_57, n_59, n_60, n_61, n_62, n_63, n_72, n_97, n_99, n_100, n_108, n_120, n_122, n_123, n_125, n_127, n_180, n_255, n_400, n_700, n_999, n_9999, n_2000000, n_2147483647, i3_add, i3_sub, i3_mul, i3_neg, i3_div, max_i3, min_i3, i6_add, i6_sub, i6_mul, i6_neg, c_lt_t, c_lt_f, c_ge_t, c_ge_f, c_gt_t, c_gt_f, c_le_t, c_le_f, c_eq_t, c_eq_f, c_ne_t, c_ne_f, in_t, i3_ofNat, ↓reduceIte, or_true, true_or, or_false, false_or, and_true, true_and, and_false, false_and, decide_true, decide_false, Bool.false_eq_true, not_true_eq_false, not_false_eq_true, Bool.true_and, Bool.false_and, Bool.and_true, Bool.and_false, Bool.true_or, Bool.false_or, Bool.or_true, Bool.or_false, e3_t, e3_f, sw_t, sw_f, sj_t, sj_f, i36, lg6_lt, lg6_eq, lg6_gt, Int.add_sub_cancel, l_0, l_1, l_2, l_3, l_4, l_5, l_10, l_9999]
      rfl
    · have e : fcP S a te i = false := by simp [fcP]; omega
      rw [e]
      simp only [Bool.false_eq_true, if_false]
      simp (disch := omega) only [let_eq, mjBp_some, mjBd_some, n_0, n_1, n_2, n_3, n_4, n_5, n_6, n_7, n_8, n_9, n_10, n_11, n_12, n_13, n_16, n_20, n_21, n_22, n_23, n_30, n_31, n_32, n_40, n_41, n_42, n_43, n_45, n_48, n_50, n_51, n_52, n_57, n_59, n_60, n_61, n_62, n_63, n_72, n_97, n_99, n_100, n_108, n_120, n_122, n_123, n_125, n_127, n_180, n_255, n_400, n_700, n_999, n_9999, n_2000000, n_2147483647, i3_add, i3_sub, i3_mul, i3_neg, i3_div, max_i3, min_i3, i6_add, i6_sub, i6_mul, i6_neg, c_lt_t, c_lt_f, c_ge_t, c_ge_f, c_gt_t, c_gt_f, c_le_t, c_le_f, c_eq_t, c_eq_f, c_ne_t, c_ne_f, in_t, i3_ofNat, ↓reduceIte, or_true, true_or, or_false, false_or, and_true, true_and, and_false, false_and, decide_true, decide_false, Bool.false_eq_true, not_true_eq_false, not_false_eq_true, Bool.true_and, Bool.false_and, Bool.and_true, Bool.and_false, Bool.true_or, Bool.false_or, Bool.or_true, Bool.or_false, e3_t, e3_f, sw_t, sw_f, sj_t, sj_f, i36, lg6_lt, lg6_eq, lg6_gt, Int.add_sub_cancel, l_0, l_1, l_2, l_3, l_4, l_5, l_10, l_9999]
      rfl
    · by_cases q2 : sKd S i = 3
      · by_cases q3 : sOt S i = sTmA S a
        · have e : fcP S a te i = true := by simp [fcP, q, q2, q3]
          rw [e]
          simp only [if_true]
          simp (disch := omega) only [let_eq, mjBp_some, mjBd_some, n_0, n_1, n_2, n_3, n_4, n_5, n_6, n_7, n_8, n_9, n_10, n_11, n_12, n_13, n_16, n_20, n_21, n_22, n_23, n_30, n_31, n_32, n_40, n_41, n_42, n_43, n_45, n_48, n_50, n_51, n_52, n_57, n_59, n_60, n_61, n_62, n_63, n_72, n_97, n_99, n_100, n_108, n_120, n_122, n_123, n_125, n_127, n_180, n_255, n_400, n_700, n_999, n_9999, n_2000000, n_2147483647, i3_add, i3_sub, i3_mul, i3_neg, i3_div, max_i3, min_i3, i6_add, i6_sub, i6_mul, i6_neg, c_lt_t, c_lt_f, c_ge_t, c_ge_f, c_gt_t, c_gt_f, c_le_t, c_le_f, c_eq_t, c_eq_f, c_ne_t, c_ne_f, in_t, i3_ofNat, ↓reduceIte, or_true, true_or, or_false, false_or, and_true, true_and, and_false, false_and, decide_true, decide_false, Bool.false_eq_true, not_true_eq_false, not_false_eq_true, Bool.true_and, Bool.false_and, Bool.and_true, Bool.and_false, Bool.true_or, Bool.false_or, Bool.or_true, Bool.or_false, e3_t, e3_f, sw_t, sw_f, sj_t, sj_f, i36, lg6_lt, lg6_eq, lg6_gt, Int.add_sub_cancel, l_0, l_1, l_2, l_3, l_4, l_5, l_10, l_9999]
          rfl
        · have e : fcP S a te i = false := by simp [fcP, q3]
          rw [e]
          simp only [Bool.false_eq_true, if_false]
          simp (disch := omega) only [let_eq, mjBp_some, mjBd_some, n_0, n_1, n_2, n_3, n_4, n_5, n_6, n_7, n_8, n_9, n_10, n_11, n_12, n_13, n_16, n_20, n_21, n_22, n_23, n_30, n_31, n_32, n_40, n_41, n_42, n_43, n_45, n_48, n_50, n_51, n_52, n_57, n_59, n_60, n_61, n_62, n_63, n_72, n_97, n_99, n_100, n_108, n_120, n_122, n_123, n_125, n_127, n_180, n_255, n_400, n_700, n_999, n_9999, n_2000000, n_2147483647, i3_add, i3_sub, i3_mul, i3_neg, i3_div, max_i3, min_i3, i6_add, i6_sub, i6_mul, i6_neg, c_lt_t, c_lt_f, c_ge_t, c_ge_f, c_gt_t, c_gt_f, c_le_t, c_le_f, c_eq_t, c_eq_f, c_ne_t, c_ne_f, in_t, i3_ofNat, ↓reduceIte, or_true, true_or, or_false, false_or, and_true, true_and, and_false, false_and, decide_true, decide_false, Bool.false_eq_true, not_true_eq_false, not_false_eq_true, Bool.true_and, Bool.false_and, Bool.and_true, Bool.and_false, Bool.true_or, Bool.false_or, Bool.or_true, Bool.or_false, e3_t, e3_f, sw_t, sw_f, sj_t, sj_f, i36, lg6_lt, lg6_eq, lg6_gt, Int.add_sub_cancel, l_0, l_1, l_2, l_3, l_4, l_5, l_10, l_9999]
          rfl
      · have e : fcP S a te i = false := by simp [fcP, q2]
        rw [e]
        simp only [Bool.false_eq_true, if_false]
        simp (disch := omega) only [let_eq, mjBp_some, mjBd_some, n_0, n_1, n_2, n_3, n_4, n_5, n_6, n_7, n_8, n_9, n_10, n_11, n_12, n_13, n_16, n_20, n_21, n_22, n_23, n_30, n_31, n_32, n_40, n_41, n_42, n_43, n_45, n_48, n_50, n_51, n_52, n_57, n_59, n_60, n_61, n_62, n_63, n_72, n_97, n_99, n_100, n_108, n_120, n_122, n_123, n_125, n_127, n_180, n_255, n_400, n_700, n_999, n_9999, n_2000000, n_2147483647, i3_add, i3_sub, i3_mul, i3_neg, i3_div, max_i3, min_i3, i6_add, i6_sub, i6_mul, i6_neg, c_lt_t, c_lt_f, c_ge_t, c_ge_f, c_gt_t, c_gt_f, c_le_t, c_le_f, c_eq_t, c_eq_f, c_ne_t, c_ne_f, in_t, i3_ofNat, ↓reduceIte, or_true, true_or, or_false, false_or, and_true, true_and, and_false, false_and, decide_true, decide_false, Bool.false_eq_true, not_true_eq_false, not_false_eq_true, Bool.true_and, Bool.false_and, Bool.and_true, Bool.and_false, Bool.true_or, Bool.false_or, Bool.or_true, Bool.or_false, e3_t, e3_f, sw_t, sw_f, sj_t, sj_f, i36, lg6_lt, lg6_eq, lg6_gt, Int.add_sub_cancel, l_0, l_1, l_2, l_3, l_4, l_5, l_10, l_9999]
        rfl
theorem e42 (h : cBk Z b S) (hd : cDr Z b S) (ho : okS S) {a : Nat} (ha : a < sAll S) {te : Int} (ht : 0 ≤ te ∧ te ≤ 9999) : ∃ y, f42_forcers b (i3 a) (i3 te) Z = some y ∧ ∀ j, j < 64 → b6 y j = (decide (j < sA S) && fcP S a te j) := by
  have o2 := all_le ho
  have o1 := ok_sc ho
  obtain ⟨r1, r2, r3, r4, r5⟩ := d_ac hd ha
  obtain ⟨y, h1, h2⟩ := e42h h hd ho ha ht (sA S) 0 mjF 0 (by omega) (by unfold mjF; omega) (fun j _ => b6_0 j)
  refine ⟨y, ?_, h2⟩
  unfold f42_forcers
  rw [if_pos (is_b (b_b h)), e6 (b_b h) (by omega), mjBp_some, if_pos (is_ac (b_b h) a (by omega)), r2]
  exact h1
/-- those that are not waived, counted -/
theorem cnt_wv (ho : okS S) {W : Nat → Bool} {w y : Int64} (hw : ∀ j, j < sAll S → b6 w j = W j) {P Q : Nat → Bool} {n : Nat} (hn : n ≤ sAll S) (hy : ∀ j, j < 64 → b6 y j = (decide (j < n) && P j)) (hq : ∀ j, j < n → Q j = (!(W j) && P j)) : cN (b6 (y &&& (w ^^^ ((-1))))) 64 = cN Q n := by
  have o2 := all_le ho
  have key : ∀ j, j < 64 → b6 (y &&& (w ^^^ ((-1)))) j = ((decide (j < n) && P j) && !(b6 w j)) := fun j hj => by
    rw [b6_and, b6_xor, hy j hj, show ((-1) : Int64) = i6 (-1) from rfl, b6_m1 j hj, Bool.xor_true]
  rw [cN_ext (n := n) 64 (by omega) (fun i h1 h2 => by rw [key i h2, decide_eq_false (by omega)]; rfl)]
  refine cN_congr n (fun i hi => ?_)
  rw [key i (by omega), hq i hi, hw i (by omega), decide_eq_true hi, Bool.true_and, Bool.and_comm]
theorem e74h (h : cBk Z b S) (hd : cDr Z b S) (ho : okS S) {a : Nat} (ha : a < sAll S) {te : Int} (ht : 0 ≤ te ∧ te ≤ 9999) : ∀ f i n, i + f = sT S → f < n → f74_look_h235 n b (i3 te) (i3 (sPl S (sTmA S a) te)) (i3 (cN (rkP S a te) i)) (i3 i) Z = some ((), zSi Z 191 10 (i3 (cN (rkP S a te) (sT S) + 1)))
  | f, i, 0, _, hn => by omega
  | 0, i, n + 1, hf, _ => by
    obtain rfl : i = sT S := by omega
    have o1 := ok_sc ho
    rw [f74_look_h235]
    simp (disch := omega) only [let_eq, mjBp_some, mjBd_some, n_0, n_1, n_2, n_3, n_4, n_5, n_6, n_7, n_8, n_9, n_10, n_11, n_12, n_13, n_16, n_20, n_21, n_22, n_23, n_30, n_31, n_32, n_40, n_41, n_42, n_43, n_45, n_48, n_50, n_51, n_52, n_57, n_59, n_60, n_61, n_62, n_63, n_72, n_97, n_99, n_100, n_108, n_120, n_122, n_123, n_125, n_127, n_180, n_255, n_400, n_700, n_999, n_9999, n_2000000, n_2147483647, i3_add, i3_sub, i3_mul, i3_neg, i3_div, max_i3, min_i3, i6_add, i6_sub, i6_mul, i6_neg, c_lt_t, c_lt_f, c_ge_t, c_ge_f, c_gt_t, c_gt_f, c_le_t, c_le_f, c_eq_t, c_eq_f, c_ne_t, c_ne_f, in_t, i3_ofNat, ↓reduceIte, or_true, true_or, or_false, false_or, and_true, true_and, and_false, false_and, decide_true, decide_false, Bool.false_eq_true, not_true_eq_false, not_false_eq_true, Bool.true_and, Bool.false_and, Bool.and_true, Bool.and_false, Bool.true_or, Bool.false_or, Bool.or_true, Bool.or_false, e3_t, e3_f, sw_t, sw_f, sj_t, sj_f, i36, lg6_lt, lg6_eq, lg6_gt, Int.add_sub_cancel, l_0, l_1, l_2, l_3, l_4, l_5, l_10, l_9999, is_b (b_b h), b_T h]
    rw [Int.add_comm]
  | f + 1, i, n + 1, hf, hn => by
    have hi : i < sT S := by omega
    have o1 := ok_sc ho
    have p1 := pl_bd ho hi te
    have p2 := pl_bd ho (tmA_lt ho ha) te
    have ih := e74h h hd ho ha ht f (i + 1) n (by omega) (by omega)
    rw [cN] at ih
    rw [f74_look_h235, if_pos (is_b (b_b h)), b_T h, if_neg (by rw [c_ge (by omega)]; omega), e8 h ho hi, mjBp_some, if_pos (is_tm (b_b h) i (by omega)), e73 h hd ho hi (by omega), mjBp_some]
    by_cases q : sPl S (sTmA S a) te < sPl S i te
    · rw [show rkP S a te i = true by simp [rkP, q]] at ih
      simp only [if_true] at ih
      simp (disch := omega) only [let_eq, mjBp_some, mjBd_some, n_0, n_1, n_2, n_3, n_4, n_5, n_6, n_7, n_8, n_9, n_10, n_11, n_12, n_13, n_16, n_20, n_21, n_22, n_23, n_30, n_31, n_32, n_40, n_41, n_42, n_43, n_45, n_48, n_50, n_51, n_52, n_57, n_59, n_60, n_61, n_62, n_63, n_72, n_97, n_99, n_100, n_108, n_120, n_122, n_123, n_125, n_127, n_180, n_255, n_400, n_700, n_999, n_9999, n_2000000, n_2147483647, i3_add, i3_sub, i3_mul, i3_neg, i3_div, max_i3, min_i3, i6_add, i6_sub, i6_mul, i6_neg, c_lt_t, c_lt_f, c_ge_t, c_ge_f, c_gt_t, c_gt_f, c_le_t, c_le_f, c_eq_t, c_eq_f, c_ne_t, c_ne_f, in_t, i3_ofNat, ↓reduceIte, or_true, true_or, or_false, false_or, and_true, true_and, and_false, false_and, decide_true, decide_false, Bool.false_eq_true, not_true_eq_false, not_false_eq_true, Bool.true_and, Bool.false_and, Bool.and_true, Bool.and_false, Bool.true_or, Bool.false_or, Bool.or_true, Bool.or_false, e3_t, e3_f, sw_t, sw_f, sj_t, sj_f, i36, lg6_lt, lg6_eq, lg6_gt, Int.add_sub_cancel, l_0, l_1, l_2, l_3, l_4, l_5, l_10, l_9999]
      exact ih
    · rw [show rkP S a te i = false by simp [rkP]; omega] at ih
      simp only [Bool.false_eq_true, if_false, Int.add_zero] at ih
      simp (disch := omega) only [let_eq, mjBp_some, mjBd_some, n_0, n_1, n_2, n_3, n_4, n_5, n_6, n_7, n_8, n_9, n_10, n_11, n_12, n_13, n_16, n_20, n_21, n_22, n_23, n_30, n_31, n_32, n_40, n_41, n_42, n_43, n_45, n_48, n_50, n_51, n_52, n_57, n_59, n_60, n_61, n_62, n_63, n_72, n_97, n_99, n_100, n_108, n_120, n_122, n_123, n_125, n_127, n_180, n_255, n_400, n_700, n_999, n_9999, n_2000000, n_2147483647, i3_add, i3_sub, i3_mul, i3_neg, i3_div, max_i3, min_i3, i6_add, i6_sub, i6_mul, i6_neg, c_lt_t, c_lt_f, c_ge_t, c_ge_f, c_gt_t, c_gt_f, c_le_t, c_le_f, c_eq_t, c_eq_f, c_ne_t, c_ne_f, in_t, i3_ofNat, ↓reduceIte, or_true, true_or, or_false, false_or, and_true, true_and, and_false, false_and, decide_true, decide_false, Bool.false_eq_true, not_true_eq_false, not_false_eq_true, Bool.true_and, Bool.false_and, Bool.and_true, Bool.and_false, Bool.true_or, Bool.false_or, Bool.or_true, Bool.or_false, e3_t, e3_f, sw_t, sw_f, sj_t, sj_f, i36, lg6_lt, lg6_eq, lg6_gt, Int.add_sub_cancel, l_0, l_1, l_2, l_3, l_4, l_5, l_10, l_9999]
      exact ih
theorem e74 (h : cBk Z b S) (hd : cDr Z b S) (ho : okS S) {a : Nat} (ha : a < sAll S) {te sz : Int} (ht : 0 ≤ te ∧ te ≤ 9999) {W : Nat → Bool} {w : Int64} (hw : ∀ j, j < sAll S → b6 w j = W j) : ∃ Z1, f74_look b (i3 a) (i3 te) (i3 sz) w Z = some ((), Z1) ∧ eqF Z Z1 ∧ ∀ k, k ≤ 10 → Z1.1 191 k = i3 (sFk S W a te sz k) := by
  have o1 := ok_sc ho
  have o2 := all_le ho
  have o4 := ok_tr ho
  have hb := b_b h
  have t2 := tmA_lt ho ha
  have o5 := ok_tm ho t2
  have p2 := pl_bd ho t2 te
  obtain ⟨r1, r2, r3, r4, r5⟩ := d_ac hd ha
  have oa : (acB b a) ≠ 191 := by unfold acB; omega
  have ot : (tmB b (sTmA S a)) ≠ 191 := by unfold tmB; omega
  have ob : b ≠ 191 := by omega
  have C : ∀ Z2, eqF Z Z2 → cBk Z2 b S ∧ cDr Z2 b S := fun Z2 e => ⟨cBk_q ho h (eqF_q e), cDr_q ho hb hd (eqF_q e)⟩
  -- the tail, from the seventh fact on
  have tail : ∀ (Z2 : mjZt) (x7 : Int), eqF Z Z2 → ∃ Z1, f74_look_j182 b (i3 a) (i3 te) w (i3 (sPl S (sTmA S a) te)) 7 (i3 x7) Z2 = some ((), Z1) ∧ eqF Z Z1 ∧ (∀ k, k < 7 → Z1.1 191 k = Z2.1 191 k) ∧ Z1.1 191 7 = i3 x7 ∧ (∀ k, 8 ≤ k → k ≤ 10 → Z1.1 191 k = i3 (sFk S W a te sz k)) := by
    intro Z2 x7 e2
    have e3 : eqF Z (zSi Z2 191 7 (i3 x7)) := eqF_si e2
    obtain ⟨y1, g1, g2⟩ := e41 (C _ e3).1 (C _ e3).2 ho ha ht
    have c8 : cN (b6 (y1 &&& (w ^^^ ((-1))))) 64 = sFk S W a te sz 8 := cnt_wv ho hw (Nat.le_refl _) g2 (fun j _ => by
      unfold agP eaP
      congr 1
      apply decide_eq_decide.mpr
      constructor
      · rintro ⟨q1, q2, q3, q4⟩; exact ⟨q3, q4, q1, q2⟩
      · rintro ⟨q1, q2, q3, q4⟩; exact ⟨q3, q4, q1, q2⟩)
    have e4 : eqF Z (zSi (zSi Z2 191 7 (i3 x7)) 191 8 (i3 (sFk S W a te sz 8))) := eqF_si e3
    obtain ⟨y2, g3, g4⟩ := e42 (C _ e4).1 (C _ e4).2 ho ha ht
    have c9 : cN (b6 (y2 &&& (w ^^^ ((-1))))) 64 = sFk S W a te sz 9 := cnt_wv ho hw (by unfold sAll; omega) g4 (fun j _ => by
      unfold foP fcP
      congr 1
      apply decide_eq_decide.mpr
      constructor
      · rintro ⟨q1, q2, q3, q4⟩; exact ⟨q3, q4, q1, q2⟩
      · rintro ⟨q1, q2, q3, q4⟩; exact ⟨q3, q4, q1, q2⟩)
    have e5 : eqF Z (zSi (zSi (zSi Z2 191 7 (i3 x7)) 191 8 (i3 (sFk S W a te sz 8))) 191 9 (i3 (sFk S W a te sz 9))) := eqF_si e4
    have g5 := e74h (C _ e5).1 (C _ e5).2 ho ha ht (sT S) 0 mjF (by omega) (by unfold mjF; omega)
    refine ⟨zSi (zSi (zSi (zSi Z2 191 7 (i3 x7)) 191 8 (i3 (sFk S W a te sz 8))) 191 9 (i3 (sFk S W a te sz 9))) 191 10 (i3 (cN (rkP S a te) (sT S) + 1)), ?_, eqF_si e5, ?_, ?_, ?_⟩
    rotate_left
    · intro k hk
      rw [si_fld _ _ _ _ (by omega), si_fld _ _ _ _ (by omega), si_fld _ _ _ _ (by omega), si_fld _ _ _ _ (by omega)]
    · rw [si_fld _ _ _ _ (by omega), si_fld _ _ _ _ (by omega), si_fld _ _ _ _ (by omega), si_same]
    · intro k hk1 hk2
      rcases (by omega : k = 8 ∨ k = 9 ∨ k = 10) with rfl | rfl | rfl
      · rw [si_fld _ _ _ _ (by omega), si_fld _ _ _ _ (by omega), si_same]
      · rw [si_fld _ _ _ _ (by omega), si_same]
      · rw [si_same]; rfl
    · unfold f74_look_j182
      rw [if_pos (by decide), let_eq, show mjIx 7 = 7 from rfl, if_pos (is_b hb), g1, mjBp_some, e324, mjBp_some, let_eq, c8, g3, mjBp_some, e324, mjBp_some, let_eq, c9]
      exact g5
  have mid : ∀ (Z2 : mjZt) (x6 : Int), eqF Z Z2 → ∃ Z1, f74_look_j149 b (i3 a) (i3 te) w (i3 (sPl S (sTmA S a) te)) 6 (i3 x6) Z2 = some ((), Z1) ∧ eqF Z Z1 ∧ (∀ k, k < 6 → Z1.1 191 k = Z2.1 191 k) ∧ Z1.1 191 6 = i3 x6 ∧ (∀ k, 7 ≤ k → k ≤ 10 → Z1.1 191 k = i3 (sFk S W a te sz k)) := by
    intro Z2 x6 e2
    have e3 : eqF Z (zSi Z2 191 6 (i3 x6)) := eqF_si e2
    obtain ⟨h3, d3⟩ := C _ e3
    unfold f74_look_j149
    rw [if_pos (by decide), let_eq, show mjIx 6 = 6 from rfl, if_pos (is_b hb), b_tr4 h3, b_tr1 h3]
    by_cases q : S 0 4 = 0
    · obtain ⟨Z1, g1, g2, g3, g4, g5⟩ := tail _ 0 e3
      refine ⟨Z1, ?_, g2, fun k hk => ?_, ?_, fun k h7 h8 => ?_⟩
      · rw [if_neg (by rw [show (0 : Int32) = i3 0 from rfl, c_ne (by omega)]; omega)]
        exact g1
      · rw [g3 k (by omega), si_fld _ _ _ _ (by omega)]
      · rw [g3 6 (by omega), si_same]
      · rcases Nat.lt_or_ge k 8 with q2 | q2
        · obtain rfl : k = 7 := by omega
          rw [g4, show sFk S W a te sz 7 = 0 from if_pos q]
        · exact g5 k q2 h8
    · obtain ⟨Z1, g1, g2, g3, g4, g5⟩ := tail _ (S 0 1 + S 0 4 - sPl S (sTmA S a) te / 10) e3
      refine ⟨Z1, ?_, g2, fun k hk => ?_, ?_, fun k h7 h8 => ?_⟩
      · rw [if_pos (by rw [show (0 : Int32) = i3 0 from rfl, c_ne (by omega)]; exact q), show (10 : Int32) = i3 10 from rfl, i3_add, i3_div (by omega), i3_sub]
        exact g1
      · rw [g3 k (by omega), si_fld _ _ _ _ (by omega)]
      · rw [g3 6 (by omega), si_same]
      · rcases Nat.lt_or_ge k 8 with q2 | q2
        · obtain rfl : k = 7 := by omega
          rw [g4, show sFk S W a te sz 7 = S 0 1 + S 0 4 - sPl S (sTmA S a) te / 10 from if_neg q]
        · exact g5 k q2 h8
  -- the head
  have e1 : eqF Z (zSi (zSi Z 191 0 (i3 te)) 191 1 (i3 sz)) := eqF_si (eqF_si eqF_rf)
  have e2 : eqF Z (zSi (zSi (zSi Z 191 0 (i3 te)) 191 1 (i3 sz)) 191 2 (i3 ((sLa S (sTmA S a) te : Int) + 1))) := eqF_si e1
  have e3 : eqF Z (zSi (zSi (zSi (zSi Z 191 0 (i3 te)) 191 1 (i3 sz)) 191 2 (i3 ((sLa S (sTmA S a) te : Int) + 1))) 191 3 (i3 (sPl S (sTmA S a) te / 10))) := eqF_si e2
  have e4 : eqF Z (zSi (zSi (zSi (zSi (zSi Z 191 0 (i3 te)) 191 1 (i3 sz)) 191 2 (i3 ((sLa S (sTmA S a) te : Int) + 1))) 191 3 (i3 (sPl S (sTmA S a) te / 10))) 191 4 (i3 (S 1 (sTmA S a)))) := eqF_si e3
  have hl := e72 (C _ e1).1 (C _ e1).2 ho t2 (k := te) (by omega)
  have hln := b_ln (C _ e3).1 t2
  obtain ⟨A, hA⟩ : ∃ A, zSi (zSi (zSi (zSi (zSi Z 191 0 (i3 te)) 191 1 (i3 sz)) 191 2 (i3 ((sLa S (sTmA S a) te : Int) + 1))) 191 3 (i3 (sPl S (sTmA S a) te / 10))) 191 4 (i3 (S 1 (sTmA S a))) = A := ⟨_, rfl⟩
  rw [hA] at e4
  have hA0 : ∀ k, k < 5 → A.1 191 k = i3 (sFk S W a te sz k) := by
    intro k hk
    rw [← hA]
    rcases (by omega : k = 0 ∨ k = 1 ∨ k = 2 ∨ k = 3 ∨ k = 4) with rfl | rfl | rfl | rfl | rfl
    · rw [si_fld _ _ _ _ (by omega), si_fld _ _ _ _ (by omega), si_fld _ _ _ _ (by omega), si_fld _ _ _ _ (by omega), si_same]; rfl
    · rw [si_fld _ _ _ _ (by omega), si_fld _ _ _ _ (by omega), si_fld _ _ _ _ (by omega), si_same]; rfl
    · rw [si_fld _ _ _ _ (by omega), si_fld _ _ _ _ (by omega), si_same]; rfl
    · rw [si_fld _ _ _ _ (by omega), si_same]; rfl
    · rw [si_same]; rfl
  obtain ⟨hAk, hAd⟩ := C A e4
  obtain ⟨_, _, r3', _, _⟩ := d_ac hAd ha
  have fin : ∀ (x5 x6 : Int), x5 = sFk S W a te sz 5 → x6 = sFk S W a te sz 6 → ∃ Z1, f74_look_j149 b (i3 a) (i3 te) w (i3 (sPl S (sTmA S a) te)) 6 (i3 x6) (zSi A 191 5 (i3 x5)) = some ((), Z1) ∧ eqF Z Z1 ∧ ∀ k, k ≤ 10 → Z1.1 191 k = i3 (sFk S W a te sz k) := by
    intro x5 x6 h5 h6
    obtain ⟨Z1, g1, g2, g3, g4, g5⟩ := mid _ x6 (eqF_si (k := 5) (v := i3 x5) e4)
    refine ⟨Z1, g1, g2, fun k hk => ?_⟩
    rcases (by omega : k < 5 ∨ k = 5 ∨ k = 6 ∨ 7 ≤ k) with q | rfl | rfl | q
    · rw [g3 k (by omega), si_fld _ _ _ _ (by omega)]; exact hA0 k q
    · rw [g3 5 (by omega), si_same, h5]
    · rw [g4, h6]
    · exact g5 k q hk
  unfold f74_look
  rw [if_pos (is_b hb), e6 hb (by omega), mjBp_some, if_pos (is_ac hb a (by omega)), r2, e8 h ho t2, mjBp_some, if_pos (is_tm hb _ (by omega)), e73 h hd ho t2 (by omega), mjBp_some, r3]
  rcases ot_cases ho (a := a) with ⟨q, _⟩ | ⟨o, q, q2, _⟩
  · rw [q, if_neg (by decide)]
    unfold f74_look_j40
    rw [let_eq, let_eq, if_pos (is_tm hb _ (by omega)), hl, mjBp_some, let_eq, show (10 : Int32) = i3 10 from rfl, i3_div (by omega), let_eq, hln, let_eq, hA, if_neg (by decide)]
    unfold f74_look_j117
    rw [if_pos (by decide), let_eq, show mjIx 5 = 5 from rfl, if_neg (by decide)]
    exact fin 0 0 (if_pos q).symm (if_pos q).symm
  · have o6 := ok_tm ho q2
    rw [q, if_pos (by rw [show ((-1) : Int32) = i3 (-1) from rfl, c_ne (by omega)]; omega)]
    unfold f74_look_j40
    rw [let_eq, let_eq, if_pos (is_tm hb _ (by omega)), hl, mjBp_some, let_eq, show (10 : Int32) = i3 10 from rfl, i3_div (by omega), let_eq, hln, let_eq, hA, if_pos (by decide), if_pos (is_ac hb a (by omega)), if_pos (is_b hb), r3', q, e8 hAk ho q2, mjBp_some, if_pos (is_tm hb o (by omega)), b_ln hAk q2]
    unfold f74_look_j117
    have e6' : eqF Z (zSi A 191 5 (i3 (S 1 o))) := eqF_si e4
    obtain ⟨hBk, hBd⟩ := C _ e6'
    obtain ⟨_, _, r3'', _, _⟩ := d_ac hBd ha
    rw [if_pos (by decide), let_eq, show mjIx 5 = 5 from rfl, if_pos (by decide), if_pos (is_ac hb a (by omega)), if_pos (is_b hb), r3'', q, e8 hBk ho q2, mjBp_some, if_pos (is_tm hb o (by omega)), e73 hBk hBd ho q2 (by omega), mjBp_some, i3_sub]
    refine fin (S 1 o) (sPl S (sTmA S a) te - sPl S o te) ?_ ?_
    · show S 1 o = if sOt S a = -1 then 0 else S 1 (sOt S a).toNat
      rw [if_neg (by omega), q, Int.toNat_natCast]
    · show sPl S (sTmA S a) te - sPl S o te = if sOt S a = -1 then 0 else sPl S (sTmA S a) te - sPl S (sOt S a).toNat te
      rw [if_neg (by omega), q, Int.toNat_natCast]
end LK
