/-! FACTS, as the model has them -/
def mWv (Z : mjZt) (S : mjS) (W : Nat → Bool) : Prop := ∀ a, a < sAll S → f278_isWaived (i3 a) Z = some (i3 (if W a = true then 1 else 0))
def sW (S : mjS) (a : Nat) : Bool := decide (a < sA S ∧ S 3 (72 + 3 * a + 2) = 1)
def agP (S : mjS) (W : Nat → Bool) (a : Nat) (te : Int) (c : Nat) : Bool := !(W c) && decide (sKd S c = sKd S a ∧ sTmA S c = sTmA S a ∧ c ≠ a ∧ (sTe S c < te ∨ (sTe S c = te ∧ c < a)))
def foP (S : mjS) (W : Nat → Bool) (a : Nat) (te : Int) (c : Nat) : Bool := !(W c) && decide (sKd S c = 3 ∧ sOt S c = sTmA S a ∧ te - 20 ≤ sTe S c ∧ sTe S c ≤ te)
def rkP (S : mjS) (a : Nat) (te : Int) (q : Nat) : Bool := decide (sPl S (sTmA S a) te < sPl S q te)
def sFk (S : mjS) (W : Nat → Bool) (a : Nat) (te sz : Int) : Nat → Int
  | 0 => te
  | 1 => sz
  | 2 => (sLa S (sTmA S a) te : Int) + 1
  | 3 => sPl S (sTmA S a) te / 10
  | 4 => S 1 (sTmA S a)
  | 5 => if sOt S a = -1 then 0 else S 1 (sOt S a).toNat
  | 6 => if sOt S a = -1 then 0 else sPl S (sTmA S a) te - sPl S (sOt S a).toNat te
  | 7 => if S 0 4 = 0 then 0 else S 0 1 + S 0 4 - sPl S (sTmA S a) te / 10
  | 8 => cN (agP S W a te) (sAll S)
  | 9 => cN (foP S W a te) (sA S)
  | _ => cN (rkP S a te) (sT S) + 1
section FC
variable {S : mjS} {Z : mjZt}
theorem m197 {n : Nat} (hn : n < 32) (x : Int32) : f197_holds1 x (i3 n) Z = some (i3 (if bt x n = true then 1 else 0)) := by
  unfold f197_holds1
  rw [show (1 : Int32) = i3 1 from rfl, bt_test hn]
  cases bt x n
  · rfl
  · rfl
theorem m278 (h : mRep Z S) (ho : okS S) {x : Int} {s : Int32} (hx : -1 ≤ x ∧ x ≤ 100) (h1 : Z.1 211 59 = i3 x) (h2 : Z.1 211 60 = s) {a : Nat} (ha : a < sAll S) : f278_isWaived (i3 a) Z = some (i3 (if (decide (a < sA S ∧ (S 3 (72 + 3 * a + 2) = 1 ∨ bt s a = true)) != decide ((a : Int) = x)) = true then 1 else 0)) := by
  have o1 := ok_sc ho
  have o2 := all_le ho
  unfold f278_isWaived f278_isWaived_j40 f278_isWaived_j36 f278_isWaived_j41
  have hj : ∀ s0 : Bool, (if mjCmp .ne (i3 a) (Z.1 211 59) = true then (if mjCmp .eq (i3 (if s0 = true then 1 else 0)) 0 = true then some (0 : Int32) else some 1) else (if mjCmp .eq (i3 (if s0 = true then 1 else 0)) 1 = true then some 0 else some 1)) = some (i3 (if (s0 != decide ((a : Int) = x)) = true then 1 else 0)) := by
    intro s0
    rw [h1]
    by_cases q : (a : Int) = x
    · rw [if_neg (by rw [c_ne (by omega)]; simp [q]), decide_eq_true q]
      cases s0 <;> rfl
    · rw [if_pos (by rw [c_ne (by omega)]; exact q), decide_eq_false q]
      cases s0 <;> rfl
  have h0 := hj false
  have h3 := hj true
  rw [show i3 (if false = true then 1 else 0) = 0 from rfl] at h0
  rw [show i3 (if true = true then 1 else 0) = 1 from rfl] at h3
  by_cases q : a < sA S
  · have o3 := (ok_act ho q).2.2.2.2.2.2.2.2.2.2
    rw [m_A h, if_neg (by rw [c_ge (by omega)]; omega), show (72 : Int32) = i3 72 from rfl, show (3 : Int32) = i3 3 from rfl, show (2 : Int32) = i3 2 from rfl, i3_mul, i3_add, i3_add, if_pos (in_p (by omega)), ix_i3 (by omega), m_nw h, show (72 + 3 * (a : Int) + 2).toNat = 72 + 3 * a + 2 by omega]
    rcases o3 with o3 | o3
    · rw [o3, if_neg (by decide), m197 (by omega), mjBp_some, h2]
      cases q2 : bt s a with
      | false =>
        rw [if_pos (by decide), decide_eq_false (by simp)]
        exact h0
      | true =>
        rw [if_neg (by decide), decide_eq_true (by simp [q])]
        exact h3
    · rw [o3, if_pos (by decide), decide_eq_true (by simp [q])]
      exact h3
  · rw [m_A h, if_pos (by rw [c_ge (by omega)]; omega), decide_eq_false (by omega)]
    exact h0
theorem mWv_0 (h : mRep Z S) (ho : okS S) (h1 : Z.1 211 59 = i3 (-1)) (h2 : Z.1 211 60 = i3 0) : mWv Z S (sW S) := by
  intro a ha
  rw [m278 h ho (by omega) h1 h2 ha]
  unfold sW
  rw [decide_eq_false (p := (a : Int) = -1) (by omega), bt_0]
  simp
/-- what isWaived rests on -/
theorem mWv_of {Z2 : mjZt} {W : Nat → Bool} (h : mWv Z S W) (e1 : Z2.1 211 40 = Z.1 211 40) (e2 : Z2.1 211 59 = Z.1 211 59) (e3 : Z2.1 211 60 = Z.1 211 60) (e4 : Z2.1 239 = Z.1 239) : mWv Z2 S W := by
  intro a ha
  rw [← h a ha]
  unfold f278_isWaived f278_isWaived_j40 f278_isWaived_j36 f278_isWaived_j41
  rw [e1, e2, e3, e4]
  rfl
theorem mWv_q {Z2 : mjZt} {W : Nat → Bool} (h : mWv Z S W) (e : eqQ Z Z2) : mWv Z2 S W :=
  mWv_of h (e.2.2.1 40 (by omega)) (e.2.2.1 59 (by omega)) (e.2.2.1 60 (by omega)) (e.2.1 239 (by unfold scr; omega) (by omega)).1
theorem m280a (h : mRep Z S) (ho : okS S) {W : Nat → Bool} (hW : mWv Z S W) {a : Nat} (ha : a < sAll S) : ∀ f i n, i + f = sAll S → f < n → f280_factOf_h196 n (i3 a) (i3 (sTmA S a)) (i3 (cN (agP S W a (sTe S a)) i)) (i3 i) Z = some (i3 (cN (agP S W a (sTe S a)) (sAll S)))
  | f, i, 0, _, hn => by omega
  | 0, i, n + 1, hf, _ => by
    obtain rfl : i = sAll S := by omega
    have o2 := all_le ho
    rw [f280_factOf_h196]
    simp (disch := omega) only [let_eq, mjBp_some, mjBd_some, n_0, n_1, n_2, n_3, n_4, n_5, n_6, n_7, n_8, n_9, n_10, n_11, n_12, n_13, n_16, n_20, n_21, n_22, n_23, n_30, n_31, n_32, n_40, n_41, n_42, n_43, n_45, n_48, n_50, n_51, n_52, n_57, n_59, n_60, n_61, n_62, n_63, n_72, n_97, n_99, n_100, n_108, n_120, n_122, n_123, n_125, n_127, n_180, n_255, n_400, n_700, n_999, n_9999, n_2000000, n_2147483647, i3_add, i3_sub, i3_mul, i3_neg, i3_div, max_i3, min_i3, i6_add, i6_sub, i6_mul, i6_neg, c_lt_t, c_lt_f, c_ge_t, c_ge_f, c_gt_t, c_gt_f, c_le_t, c_le_f, c_eq_t, c_eq_f, c_ne_t, c_ne_f, in_t, i3_ofNat, ↓reduceIte, or_true, true_or, or_false, false_or, and_true, true_and, and_false, false_and, decide_true, decide_false, Bool.false_eq_true, not_true_eq_false, not_false_eq_true, Bool.true_and, Bool.false_and, Bool.and_true, Bool.and_false, Bool.true_or, Bool.false_or, Bool.or_true, Bool.or_false, e3_t, e3_f, sw_t, sw_f, sj_t, sj_f, i36, lg6_lt, lg6_eq, lg6_gt, Int.add_sub_cancel, l_0, l_1, l_2, l_3, l_4, l_5, l_10, l_9999, m251 h ho]
  | f + 1, i, n + 1, hf, hn => by
    have hi : i < sAll S := by omega
    have o1 := ok_sc ho
    have o2 := all_le ho
    have k1 := kd_bd ho (a := i)
    have k2 := kd_bd ho (a := a)
    have t1 := tmA_lt ho hi
    have t2 := tmA_lt ho ha
    have ih := m280a h ho hW ha f (i + 1) n (by omega) (by omega)
    rw [cN] at ih
    rw [f280_factOf_h196, m251 h ho, mjBp_some, if_neg (by rw [c_ge (by omega)]; omega), hW i hi, mjBp_some]
    cases q1 : W i with
    | true =>
      rw [show agP S W a (sTe S a) i = false by simp [agP, q1]] at ih
      simp only [Bool.false_eq_true, if_false, Int.add_zero] at ih
      simp (disch := omega) only [let_eq, mjBp_some, mjBd_some, n_0, n_1, n_2, n_3, n_4, n_5, n_6, n_7, n_8, n_9, n_10, n_11, n_12, n_13, n_16, n_20, n_21, n_22, n_23, n_30, n_31, n_32, n_40, n_41, n_42, n_43, n_45, n_48, n_50, n_51, n_52, n_57, n_59, n_60, n_61, n_62, n_63, n_72, n_97, n_99, n_100, n_108, n_120, n_122, n_123, n_125, n_127, n_180, n_255, n_400, n_700, n_999, n_9999, n_2000000, n_2147483647, i3_add, i3_sub, i3_mul, i3_neg, i3_div, max_i3, min_i3, i6_add, i6_sub, i6_mul, i6_neg, c_lt_t, c_lt_f, c_ge_t, c_ge_f, c_gt_t, c_gt_f, c_le_t, c_le_f, c_eq_t, c_eq_f, c_ne_t, c_ne_f, in_t, i3_ofNat, ↓reduceIte, or_true, true_or, or_false, false_or, and_true, true_and, and_false, false_and, decide_true, decide_false, Bool.false_eq_true, not_true_eq_false, not_false_eq_true, Bool.true_and, Bool.false_and, Bool.and_true, Bool.and_false, Bool.true_or, Bool.false_or, Bool.or_true, Bool.or_false, e3_t, e3_f, sw_t, sw_f, sj_t, sj_f, i36, lg6_lt, lg6_eq, lg6_gt, Int.add_sub_cancel, l_0, l_1, l_2, l_3, l_4, l_5, l_10, l_9999, m196_0, Int.add_zero]
      exact ih
    | false =>
      rw [if_neg (by decide), m273 h ho hi, mjBp_some, m273 h ho ha, mjBp_some]
      by_cases q2 : sKd S i = sKd S a
      · rw [if_neg (by rw [c_ne (by omega)]; omega), m274 h ho hi, mjBp_some]
        by_cases q3 : sTmA S i = sTmA S a
        · rw [if_neg (by rw [c_ne (by omega)]; omega), m279 h ho hi ha, mjBp_some]
          unfold sAh
          by_cases q4 : sTe S i < sTe S a ∨ (sTe S i = sTe S a ∧ i < a)
          · have q5 : i ≠ a := by rintro rfl; omega
            rw [show agP S W a (sTe S a) i = true by simp [agP, q1, q2, q3, q4, q5]] at ih
            simp only [if_true] at ih
            rw [decide_eq_true q4]
            simp (disch := omega) only [let_eq, mjBp_some, mjBd_some, n_0, n_1, n_2, n_3, n_4, n_5, n_6, n_7, n_8, n_9, n_10, n_11, n_12, n_13, n_16, n_20, n_21, n_22, n_23, n_30, n_31, n_32, n_40, n_41, n_42, n_43, n_45, n_48, n_50, n_51, n_52, n_57, n_59, n_60, n_61, n_62, n_63, n_72, n_97, n_99, n_100, n_108, n_120, n_122, n_123, n_125, n_127, n_180, n_255, n_400, n_700, n_999, n_9999, n_2000000, n_2147483647, i3_add, i3_sub, i3_mul, i3_neg, i3_div, max_i3, min_i3, i6_add, i6_sub, i6_mul, i6_neg, c_lt_t, c_lt_f, c_ge_t, c_ge_f, c_gt_t, c_gt_f, c_le_t, c_le_f, c_eq_t, c_eq_f, c_ne_t, c_ne_f, in_t, i3_ofNat, ↓reduceIte, or_true, true_or, or_false, false_or, and_true, true_and, and_false, false_and, decide_true, decide_false, Bool.false_eq_true, not_true_eq_false, not_false_eq_true, Bool.true_and, Bool.false_and, Bool.and_true, Bool.and_false, Bool.true_or, Bool.false_or, Bool.or_true, Bool.or_false, e3_t, e3_f, sw_t, sw_f, sj_t, sj_f, i36, lg6_lt, lg6_eq, lg6_gt, Int.add_sub_cancel, l_0, l_1, l_2, l_3, l_4, l_5, l_10, l_9999, m196_1]
            exact ih
          · rw [show agP S W a (sTe S a) i = false by simp [agP, q4]] at ih
            simp only [Bool.false_eq_true, if_false, Int.add_zero] at ih
            rw [decide_eq_false q4]
            simp (disch := omega) only [let_eq, mjBp_some, mjBd_some, n_0, n_1, n_2, n_3, n_4, n_5, n_6, n_7, n_8, n_9, n_10, n_11, n_12, n_13, n_16, n_20, n_21, n_22, n_23, n_30, n_31, n_32, n_40, n_41, n_42, n_43, n_45, n_48, n_50, n_51, n_52, n_57, n_59, n_60, n_61, n_62, n_63, n_72, n_97, n_99, n_100, n_108, n_120, n_122, n_123, n_125, n_127, n_180, n_255, n_400, n_700, n_999, n_9999, n_2000000, n_2147483647, i3_add, i3_sub, i3_mul, i3_neg, i3_div, max_i3, min_i3, i6_add, i6_sub, i6_mul, i6_neg, c_lt_t, c_lt_f, c_ge_t, c_ge_f, c_gt_t, c_gt_f, c_le_t, c_le_f, c_eq_t, c_eq_f, c_ne_t, c_ne_f, in_t, i3_ofNat, ↓reduceIte, or_true, true_or, or_false, false_or, and_true, true_and, and_false, false_and, decide_true, decide_false, Bool.false_eq_true, not_true_eq_false, not_false_eq_true, Bool.true_and, Bool.false_and, Bool.and_true, Bool.and_false, Bool.true_or, Bool.false_or, Bool.or_true, Bool.or_false, e3_t, e3_f, sw_t, sw_f, sj_t, sj_f, i36, lg6_lt, lg6_eq, lg6_gt, Int.add_sub_cancel, l_0, l_1, l_2, l_3, l_4, l_5, l_10, l_9999, m196_0, Int.add_zero]
            exact ih
        · rw [show agP S W a (sTe S a) i = false by simp [agP, q3]] at ih
          simp only [Bool.false_eq_true, if_false, Int.add_zero] at ih
          rw [if_pos (by rw [c_ne (by omega)]; omega)]
          simp (disch := omega) only [let_eq, mjBp_some, mjBd_some, n_0, n_1, n_2, n_3, n_4, n_5, n_6, n_7, n_8, n_9, n_10, n_11, n_12, n_13, n_16, n_20, n_21, n_22, n_23, n_30, n_31, n_32, n_40, n_41, n_42, n_43, n_45, n_48, n_50, n_51, n_52, n_57, n_59, n_60, n_61, n_62, n_63, n_72, n_97, n_99, n_100, n_108, n_120, n_122, n_123, n_125, n_127, n_180, n_255, n_400, n_700, n_999, n_9999, n_2000000, n_2147483647, i3_add, i3_sub, i3_mul, i3_neg, i3_div, max_i3, min_i3, i6_add, i6_sub, i6_mul, i6_neg, c_lt_t, c_lt_f, c_ge_t, c_ge_f, c_gt_t, c_gt_f, c_le_t, c_le_f, c_eq_t, c_eq_f, c_ne_t, c_ne_f, in_t, i3_ofNat, ↓reduceIte, or_true, true_or, or_false, false_or, and_true, true_and, and_false, false_and, decide_true, decide_false, Bool.false_eq_true, not_true_eq_false, not_false_eq_true, Bool.true_and, Bool.false_and, Bool.and_true, Bool.and_false, Bool.true_or, Bool.false_or, Bool.or_true, Bool.or_false, e3_t, e3_f, sw_t, sw_f, sj_t, sj_f, i36, lg6_lt, lg6_eq, lg6_gt, Int.add_sub_cancel, l_0, l_1, l_2, l_3, l_4, l_5, l_10, l_9999, m196_0, Int.add_zero]
          exact ih
      · rw [show agP S W a (sTe S a) i = false by simp [agP, q2]] at ih
        simp only [Bool.false_eq_true, if_false, Int.add_zero] at ih
        rw [if_pos (by rw [c_ne (by omega)]; omega)]
        simp (disch := omega) only [let_eq, mjBp_some, mjBd_some, n_0, n_1, n_2, n_3, n_4, n_5, n_6, n_7, n_8, n_9, n_10, n_11, n_12, n_13, n_16, n_20, n_21, n_22, n_23, n_30, n_31, n_32, n_40, n_41, n_42, n_43, n_45, n_48, n_50, n_51, n_52, n_57, n_59, n_60, n_61, n_62, n_63, n_72, n_97, n_99, n_100, n_108, n_120, n_122, n_123, n_125, n_127, n_180, n_255, n_400, n_700, n_999, n_9999, n_2000000, n_2147483647, i3_add, i3_sub, i3_mul, i3_neg, i3_div, max_i3, min_i3, i6_add, i6_sub, i6_mul, i6_neg, c_lt_t, c_lt_f, c_ge_t, c_ge_f, c_gt_t, c_gt_f, c_le_t, c_le_f, c_eq_t, c_eq_f, c_ne_t, c_ne_f, in_t, i3_ofNat, ↓reduceIte, or_true, true_or, or_false, false_or, and_true, true_and, and_false, false_and, decide_true, decide_false, Bool.false_eq_true, not_true_eq_false, not_false_eq_true, Bool.true_and, Bool.false_and, Bool.and_true, Bool.and_false, Bool.true_or, Bool.false_or, Bool.or_true, Bool.or_false, e3_t, e3_f, sw_t, sw_f, sj_t, sj_f, i36, lg6_lt, lg6_eq, lg6_gt, Int.add_sub_cancel, l_0, l_1, l_2, l_3, l_4, l_5, l_10, l_9999, m196_0, Int.add_zero]
        exact ih
theorem m280f (h : mRep Z S) (ho : okS S) {W : Nat → Bool} (hW : mWv Z S W) {a : Nat} (ha : a < sAll S) : ∀ f i n, i + f = sA S → f < n → f280_factOf_h273 n (i3 (sTmA S a)) (i3 (sTe S a)) (i3 (cN (foP S W a (sTe S a)) i)) (i3 i) Z = some (i3 (cN (foP S W a (sTe S a)) (sA S)))
  | f, i, 0, _, hn => by omega
  | 0, i, n + 1, hf, _ => by
    obtain rfl : i = sA S := by omega
    have o1 := ok_sc ho
    rw [f280_factOf_h273]
    simp (disch := omega) only [let_eq, mjBp_some, mjBd_some, n_0, n_1, n_2, n_3, n_4, n_5, n_6, n_7, n_8, n_9, n_10, n_11, n_12, n_13, n_16, n_20, n_21, n_22, n_23, n_30, n_31, n_32, n_40, n_41, n_42, n_43, n_45, n_48, n_50, n_51, n_52, n_57, n_59, n_60, n_61, n_62, n_63, n_72, n_97, n_99, n_100, n_108, n_120, n_122, n_123, n_125, n_127, n_180, n_255, n_400, n_700, n_999, n_9999, n_2000000, n_2147483647, i3_add, i3_sub, i3_mul, i3_neg, i3_div, max_i3, min_i3, i6_add, i6_sub, i6_mul, i6_neg, c_lt_t, c_lt_f, c_ge_t, c_ge_f, c_gt_t, c_gt_f, c_le_t, c_le_f, c_eq_t, c_eq_f, c_ne_t, c_ne_f, in_t, i3_ofNat, ↓reduceIte, or_true, true_or, or_false, false_or, and_true, true_and, and_false, false_and, decide_true, decide_false, Bool.false_eq_true, not_true_eq_false, not_false_eq_true, Bool.true_and, Bool.false_and, Bool.and_true, Bool.and_false, Bool.true_or, Bool.false_or, Bool.or_true, Bool.or_false, e3_t, e3_f, sw_t, sw_f, sj_t, sj_f, i36, lg6_lt, lg6_eq, lg6_gt, Int.add_sub_cancel, l_0, l_1, l_2, l_3, l_4, l_5, l_10, l_9999, m_A h]
  | f + 1, i, n + 1, hf, hn => by
    have hi : i < sAll S := by unfold sAll; omega
    have o1 := ok_sc ho
    have o2 := all_le ho
    have k1 := kd_bd ho (a := i)
    have t2 := tmA_lt ho ha
    have t3 := te_bd ho ha
    have t4 := te_bd ho hi
    have ob : -1 ≤ sOt S i ∧ sOt S i ≤ 5 := by
      rcases ot_cases ho (a := i) with ⟨q, _⟩ | ⟨o, q, q2, _⟩ <;> omega
    have ih := m280f h ho hW ha f (i + 1) n (by omega) (by omega)
    rw [cN] at ih
    rw [f280_factOf_h273, m_A h, if_neg (by rw [c_ge (by omega)]; omega), hW i hi, mjBp_some]
    cases q1 : W i with
    | true =>
      rw [show foP S W a (sTe S a) i = false by simp [foP, q1]] at ih
      simp only [Bool.false_eq_true, if_false, Int.add_zero] at ih
      simp (disch := omega) only [let_eq, mjBp_some, mjBd_some, n_0, n_1, n_2, n_3, n_4, n_5, n_6, n_7, n_8, n_9, n_10, n_11, n_12, n_13, n_16, n_20, n_21, n_22, n_23, n_30, n_31, n_32, n_40, n_41, n_42, n_43, n_45, n_48, n_50, n_51, n_52, n_57, n_59, n_60, n_61, n_62, n_63, n_72, n_97, n_99, n_100, n_108, n_120, n_122, n_123, n_125, n_127, n_180, n_255, n_400, n_700, n_999, n_9999, n_2000000, n_2147483647, i3_add, i3_sub, i3_mul, i3_neg, i3_div, max_i3, min_i3, i6_add, i6_sub, i6_mul, i6_neg, c_lt_t, c_lt_f, c_ge_t, c_ge_f, c_gt_t, c_gt_f, c_le_t, c_le_f, c_eq_t, c_eq_f, c_ne_t, c_ne_f, in_t, i3_ofNat, ↓reduceIte, or_true, true_or, or_false, false_or, and_true, true_and, and_false, false_and, decide_true, decide_false, Bool.false_eq_true, not_true_eq_false, not_false_eq_true, Bool.true_and, Bool.false_and, Bool.and_true, Bool.and_false, Bool.true_or, Bool.false_or, Bool.or_true, Bool.or_false, e3_t, e3_f, sw_t, sw_f, sj_t, sj_f, i36, lg6_lt, lg6_eq, lg6_gt, Int.add_sub_cancel, l_0, l_1, l_2, l_3, l_4, l_5, l_10, l_9999, m196_0, Int.add_zero]
      exact ih
    | false =>
      rw [if_neg (by decide), m273 h ho hi, mjBp_some, show (3 : Int32) = i3 3 from rfl]
      by_cases q2 : sKd S i = 3
      · rw [if_neg (by rw [c_ne (by omega)]; omega), m275 h ho hi, mjBp_some]
        by_cases q3 : sOt S i = sTmA S a
        · rw [if_neg (by rw [c_ne (by omega)]; omega), m276 h ho hi, mjBp_some]
          by_cases q4 : sTe S a - 20 ≤ sTe S i ∧ sTe S i ≤ sTe S a
          · rw [show foP S W a (sTe S a) i = true by simp [foP, q1, q2, q3, q4]] at ih
            simp only [if_true] at ih
            simp (disch := omega) only [let_eq, mjBp_some, mjBd_some, n_0, n_1, n_2, n_3, n_4, n_5, n_6, n_7, n_8, n_9, n_10, n_11, n_12, n_13, n_16, n_20, n_21, n_22, n_23, n_30, n_31, n_32, n_40, n_41, n_42, n_43, n_45, n_48, n_50, n_51, n_52, n_57, n_59, n_60, n_61, n_62, n_63, n_72, n_97, n_99, n_100, n_108, n_120, n_122, n_123, n_125, n_127, n_180, n_255, n_400, n_700, n_999, n_9999, n_2000000, n_2147483647, i3_add, i3_sub, i3_mul, i3_neg, i3_div, max_i3, min_i3, i6_add, i6_sub, i6_mul, i6_neg, c_lt_t, c_lt_f, c_ge_t, c_ge_f, c_gt_t, c_gt_f, c_le_t, c_le_f, c_eq_t, c_eq_f, c_ne_t, c_ne_f, in_t, i3_ofNat, ↓reduceIte, or_true, true_or, or_false, false_or, and_true, true_and, and_false, false_and, decide_true, decide_false, Bool.false_eq_true, not_true_eq_false, not_false_eq_true, Bool.true_and, Bool.false_and, Bool.and_true, Bool.and_false, Bool.true_or, Bool.false_or, Bool.or_true, Bool.or_false, e3_t, e3_f, sw_t, sw_f, sj_t, sj_f, i36, lg6_lt, lg6_eq, lg6_gt, Int.add_sub_cancel, l_0, l_1, l_2, l_3, l_4, l_5, l_10, l_9999, m195t, m196_1]
            exact ih
          · rw [show foP S W a (sTe S a) i = false by simp only [foP, q4, and_false, decide_false, Bool.and_false]] at ih
            simp only [Bool.false_eq_true, if_false, Int.add_zero] at ih
            simp (disch := omega) only [let_eq, mjBp_some, mjBd_some, n_0, n_1, n_2, n_3, n_4, n_5, n_6, n_7, n_8, n_9, n_10, n_11, n_12, n_13, n_16, n_20, n_21, n_22, n_23, n_30, n_31, n_32, n_40, n_41, n_42, n_43, n_45, n_48, n_50, n_51, n_52, n_57, n_59, n_60, n_61, n_62, n_63, n_72, n_97, n_99, n_100, n_108, n_120, n_122, n_123, n_125, n_127, n_180, n_255, n_400, n_700, n_999, n_9999, n_2000000, n_2147483647, i3_add, i3_sub, i3_mul, i3_neg, i3_div, max_i3, min_i3, i6_add, i6_sub, i6_mul, i6_neg, c_lt_t, c_lt_f, c_ge_t, c_ge_f, c_gt_t, c_gt_f, c_le_t, c_le_f, c_eq_t, c_eq_f, c_ne_t, c_ne_f, in_t, i3_ofNat, ↓reduceIte, or_true, true_or, or_false, false_or, and_true, true_and, and_false, false_and, decide_true, decide_false, Bool.false_eq_true, not_true_eq_false, not_false_eq_true, Bool.true_and, Bool.false_and, Bool.and_true, Bool.and_false, Bool.true_or, Bool.false_or, Bool.or_true, Bool.or_false, e3_t, e3_f, sw_t, sw_f, sj_t, sj_f, i36, lg6_lt, lg6_eq, lg6_gt, Int.add_sub_cancel, l_0, l_1, l_2, l_3, l_4, l_5, l_10, l_9999, m195f, m196_0, Int.add_zero]
            exact ih
        · rw [show foP S W a (sTe S a) i = false by simp [foP, q3]] at ih
          simp only [Bool.false_eq_true, if_false, Int.add_zero] at ih
          rw [if_pos (show mjCmp .ne (i3 (sOt S i)) (i3 (sTmA S a)) = true by rw [c_ne (by omega)]; exact q3)]
          simp (disch := omega) only [let_eq, mjBp_some, mjBd_some, n_0, n_1, n_2, n_3, n_4, n_5, n_6, n_7, n_8, n_9, n_10, n_11, n_12, n_13, n_16, n_20, n_21, n_22, n_23, n_30, n_31, n_32, n_40, n_41, n_42, n_43, n_45, n_48, n_50, n_51, n_52, n_57, n_59, n_60, n_61, n_62, n_63, n_72, n_97, n_99, n_100, n_108, n_120, n_122, n_123, n_125, n_127, n_180, n_255, n_400, n_700, n_999, n_9999, n_2000000, n_2147483647, i3_add, i3_sub, i3_mul, i3_neg, i3_div, max_i3, min_i3, i6_add, i6_sub, i6_mul, i6_neg, c_lt_t, c_lt_f, c_ge_t, c_ge_f, c_gt_t, c_gt_f, c_le_t, c_le_f, c_eq_t, c_eq_f, c_ne_t, c_ne_f, in_t, i3_ofNat, ↓reduceIte, or_true, true_or, or_false, false_or, and_true, true_and, and_false, false_and, decide_true, decide_false, Bool.false_eq_true, not_true_eq_false, not_false_eq_true, Bool.true_and, Bool.false_and, Bool.and_true, Bool.and_false, Bool.true_or, Bool.false_or, Bool.or_true, Bool.or_false, e3_t, e3_f, sw_t, sw_f, sj_t, sj_f, i36, lg6_lt, lg6_eq, lg6_gt, Int.add_sub_cancel, l_0, l_1, l_2, l_3, l_4, l_5, l_10, l_9999, m196_0, Int.add_zero]
          exact ih
      · rw [show foP S W a (sTe S a) i = false by simp [foP, q2]] at ih
        simp only [Bool.false_eq_true, if_false, Int.add_zero] at ih
        rw [if_pos (by rw [c_ne (by omega)]; omega)]
        simp (disch := omega) only [let_eq, mjBp_some, mjBd_some, n_0, n_1, n_2, n_3, n_4, n_5, n_6, n_7, n_8, n_9, n_10, n_11, n_12, n_13, n_16, n_20, n_21, n_22, n_23, n_30, n_31, n_32, n_40, n_41, n_42, n_43, n_45, n_48, n_50, n_51, n_52, n_57, n_59, n_60, n_61, n_62, n_63, n_72, n_97, n_99, n_100, n_108, n_120, n_122, n_123, n_125, n_127, n_180, n_255, n_400, n_700, n_999, n_9999, n_2000000, n_2147483647, i3_add, i3_sub, i3_mul, i3_neg, i3_div, max_i3, min_i3, i6_add, i6_sub, i6_mul, i6_neg, c_lt_t, c_lt_f, c_ge_t, c_ge_f, c_gt_t, c_gt_f, c_le_t, c_le_f, c_eq_t, c_eq_f, c_ne_t, c_ne_f, in_t, i3_ofNat, ↓reduceIte, or_true, true_or, or_false, false_or, and_true, true_and, and_false, false_and, decide_true, decide_false, Bool.false_eq_true, not_true_eq_false, not_false_eq_true, Bool.true_and, Bool.false_and, Bool.and_true, Bool.and_false, Bool.true_or, Bool.false_or, Bool.or_true, Bool.or_false, e3_t, e3_f, sw_t, sw_f, sj_t, sj_f, i36, lg6_lt, lg6_eq, lg6_gt, Int.add_sub_cancel, l_0, l_1, l_2, l_3, l_4, l_5, l_10, l_9999, m196_0, Int.add_zero]
        exact ih
theorem m280r (h : mRep Z S) (ho : okS S) {a : Nat} (ha : a < sAll S) : ∀ f i n, i + f = sT S → f < n → f280_factOf_h358 n (i3 (sTe S a)) (i3 (sPl S (sTmA S a) (sTe S a))) (i3 (cN (rkP S a (sTe S a)) i)) (i3 i) Z = some (i3 (cN (rkP S a (sTe S a)) (sT S) + 1))
  | f, i, 0, _, hn => by omega
  | 0, i, n + 1, hf, _ => by
    obtain rfl : i = sT S := by omega
    have o1 := ok_sc ho
    rw [f280_factOf_h358]
    simp (disch := omega) only [let_eq, mjBp_some, mjBd_some, n_0, n_1, n_2, n_3, n_4, n_5, n_6, n_7, n_8, n_9, n_10, n_11, n_12, n_13, n_16, n_20, n_21, n_22, n_23, n_30, n_31, n_32, n_40, n_41, n_42, n_43, n_45, n_48, n_50, n_51, n_52, n_57, n_59, n_60, n_61, n_62, n_63, n_72, n_97, n_99, n_100, n_108, n_120, n_122, n_123, n_125, n_127, n_180, n_255, n_400, n_700, n_999, n_9999, n_2000000, n_2147483647, i3_add, i3_sub, i3_mul, i3_neg, i3_div, max_i3, min_i3, i6_add, i6_sub, i6_mul, i6_neg, c_lt_t, c_lt_f, c_ge_t, c_ge_f, c_gt_t, c_gt_f, c_le_t, c_le_f, c_eq_t, c_eq_f, c_ne_t, c_ne_f, in_t, i3_ofNat, ↓reduceIte, or_true, true_or, or_false, false_or, and_true, true_and, and_false, false_and, decide_true, decide_false, Bool.false_eq_true, not_true_eq_false, not_false_eq_true, Bool.true_and, Bool.false_and, Bool.and_true, Bool.and_false, Bool.true_or, Bool.false_or, Bool.or_true, Bool.or_false, e3_t, e3_f, sw_t, sw_f, sj_t, sj_f, i36, lg6_lt, lg6_eq, lg6_gt, Int.add_sub_cancel, l_0, l_1, l_2, l_3, l_4, l_5, l_10, l_9999, m_T h]
  | f + 1, i, n + 1, hf, hn => by
    have hi : i < sT S := by omega
    have o1 := ok_sc ho
    have t3 := te_bd ho ha
    have p1 := pl_bd ho hi (sTe S a)
    have p2 := pl_bd ho (tmA_lt ho ha) (sTe S a)
    have ih := m280r h ho ha f (i + 1) n (by omega) (by omega)
    rw [cN] at ih
    rw [f280_factOf_h358, m_T h, if_neg (by rw [c_ge (by omega)]; omega), m249 h ho hi (by omega), mjBp_some]
    by_cases q : sPl S (sTmA S a) (sTe S a) < sPl S i (sTe S a)
    · rw [show rkP S a (sTe S a) i = true by simp [rkP, q]] at ih
      simp only [if_true] at ih
      simp (disch := omega) only [let_eq, mjBp_some, mjBd_some, n_0, n_1, n_2, n_3, n_4, n_5, n_6, n_7, n_8, n_9, n_10, n_11, n_12, n_13, n_16, n_20, n_21, n_22, n_23, n_30, n_31, n_32, n_40, n_41, n_42, n_43, n_45, n_48, n_50, n_51, n_52, n_57, n_59, n_60, n_61, n_62, n_63, n_72, n_97, n_99, n_100, n_108, n_120, n_122, n_123, n_125, n_127, n_180, n_255, n_400, n_700, n_999, n_9999, n_2000000, n_2147483647, i3_add, i3_sub, i3_mul, i3_neg, i3_div, max_i3, min_i3, i6_add, i6_sub, i6_mul, i6_neg, c_lt_t, c_lt_f, c_ge_t, c_ge_f, c_gt_t, c_gt_f, c_le_t, c_le_f, c_eq_t, c_eq_f, c_ne_t, c_ne_f, in_t, i3_ofNat, ↓reduceIte, or_true, true_or, or_false, false_or, and_true, true_and, and_false, false_and, decide_true, decide_false, Bool.false_eq_true, not_true_eq_false, not_false_eq_true, Bool.true_and, Bool.false_and, Bool.and_true, Bool.and_false, Bool.true_or, Bool.false_or, Bool.or_true, Bool.or_false, e3_t, e3_f, sw_t, sw_f, sj_t, sj_f, i36, lg6_lt, lg6_eq, lg6_gt, Int.add_sub_cancel, l_0, l_1, l_2, l_3, l_4, l_5, l_10, l_9999, m196_1]
      exact ih
    · rw [show rkP S a (sTe S a) i = false by simp [rkP]; omega] at ih
      simp only [Bool.false_eq_true, if_false, Int.add_zero] at ih
      simp (disch := omega) only [let_eq, mjBp_some, mjBd_some, n_0, n_1, n_2, n_3, n_4, n_5, n_6, n_7, n_8, n_9, n_10, n_11, n_12, n_13, n_16, n_20, n_21, n_22, n_23, n_30, n_31, n_32, n_40, n_41, n_42, n_43, n_45, n_48, n_50, n_51, n_52, n_57, n_59, n_60, n_61, n_62, n_63, n_72, n_97, n_99, n_100, n_108, n_120, n_122, n_123, n_125, n_127, n_180, n_255, n_400, n_700, n_999, n_9999, n_2000000, n_2147483647, i3_add, i3_sub, i3_mul, i3_neg, i3_div, max_i3, min_i3, i6_add, i6_sub, i6_mul, i6_neg, c_lt_t, c_lt_f, c_ge_t, c_ge_f, c_gt_t, c_gt_f, c_le_t, c_le_f, c_eq_t, c_eq_f, c_ne_t, c_ne_f, in_t, i3_ofNat, ↓reduceIte, or_true, true_or, or_false, false_or, and_true, true_and, and_false, false_and, decide_true, decide_false, Bool.false_eq_true, not_true_eq_false, not_false_eq_true, Bool.true_and, Bool.false_and, Bool.and_true, Bool.and_false, Bool.true_or, Bool.false_or, Bool.or_true, Bool.or_false, e3_t, e3_f, sw_t, sw_f, sj_t, sj_f, i36, lg6_lt, lg6_eq, lg6_gt, Int.add_sub_cancel, l_0, l_1, l_2, l_3, l_4, l_5, l_10, l_9999, m196_0, Int.add_zero]
      exact ih
theorem m280 (h : mRep Z S) (ho : okS S) {W : Nat → Bool} (hW : mWv Z S W) {a : Nat} (ha : a < sAll S) {k : Nat} (hk : k ≤ 10) : f280_factOf (i3 a) (i3 k) Z = some (i3 (sFk S W a (sTe S a) (sSz S a) k)) := by
  have o1 := ok_sc ho
  have o2 := all_le ho
  have o4 := ok_tr ho
  have t2 := tmA_lt ho ha
  have t3 := te_bd ho ha
  have p2 := pl_bd ho (tmA_lt ho ha) (sTe S a)
  have ea : f280_factOf_h196 mjF (i3 a) (i3 (sTmA S a)) 0 0 Z = some (i3 (cN (agP S W a (sTe S a)) (sAll S))) := m280a h ho hW ha (sAll S) 0 mjF (by omega) (by unfold mjF; omega)
  have ef : f280_factOf_h273 mjF (i3 (sTmA S a)) (i3 (sTe S a)) 0 0 Z = some (i3 (cN (foP S W a (sTe S a)) (sA S))) := m280f h ho hW ha (sA S) 0 mjF (by omega) (by unfold mjF; omega)
  have er : f280_factOf_h358 mjF (i3 (sTe S a)) (i3 (sPl S (sTmA S a) (sTe S a))) 0 0 Z = some (i3 (cN (rkP S a (sTe S a)) (sT S) + 1)) := m280r h ho ha (sT S) 0 mjF (by omega) (by unfold mjF; omega)
  unfold f280_factOf
  rw [m274 h ho ha, mjBp_some, m276 h ho ha, mjBp_some, m275 h ho ha, mjBp_some, m249 h ho t2 (by omega), mjBp_some, ea, ef, er]
  rcases (by omega : k = 0 ∨ k = 1 ∨ k = 2 ∨ k = 3 ∨ k = 4 ∨ k = 5 ∨ k = 6 ∨ k = 7 ∨ k = 8 ∨ k = 9 ∨ k = 10) with rfl | rfl | rfl | rfl | rfl | rfl | rfl | rfl | rfl | rfl | rfl
  · rfl
  · rw [if_neg (by decide), if_neg (by decide), if_pos (by decide), m277 h ho ha]; rfl
  · rw [if_neg (by decide), if_neg (by decide), if_neg (by decide), if_pos (by decide), m248 h ho t2 (by omega), mjBp_some, show (1 : Int32) = i3 1 from rfl, i3_add]; rfl
  · rw [if_neg (by decide), if_neg (by decide), if_neg (by decide), if_neg (by decide), if_pos (by decide), show (10 : Int32) = i3 10 from rfl, i3_div (by omega)]; rfl
  · rw [if_neg (by decide), if_neg (by decide), if_neg (by decide), if_neg (by decide), if_neg (by decide), if_pos (by decide), if_pos (in_p (by omega)), ix_nat (by omega), m_ln h]; rfl
  · rw [if_neg (by decide), if_neg (by decide), if_neg (by decide), if_neg (by decide), if_neg (by decide), if_neg (by decide), if_pos (by decide)]
    rcases ot_cases ho (a := a) with ⟨q, _⟩ | ⟨o, q, q2, _⟩
    · rw [show sFk S W a (sTe S a) (sSz S a) 5 = 0 from if_pos q, q]; rfl
    · rw [show sFk S W a (sTe S a) (sSz S a) 5 = S 1 (sOt S a).toNat from if_neg (by omega), q, show (1 : Int32) = i3 1 from rfl, i3_neg, if_pos (by rw [c_ne (by omega)]; omega), if_pos (in_p (by omega)), ix_nat (by omega), m_ln h, Int.toNat_natCast]
  · rw [if_neg (by decide), if_neg (by decide), if_neg (by decide), if_neg (by decide), if_neg (by decide), if_neg (by decide), if_neg (by decide), if_pos (by decide)]
    rcases ot_cases ho (a := a) with ⟨q, _⟩ | ⟨o, q, q2, _⟩
    · rw [show sFk S W a (sTe S a) (sSz S a) 6 = 0 from if_pos q, q]; rfl
    · rw [show sFk S W a (sTe S a) (sSz S a) 6 = sPl S (sTmA S a) (sTe S a) - sPl S (sOt S a).toNat (sTe S a) from if_neg (by omega), q, show (1 : Int32) = i3 1 from rfl, i3_neg, if_pos (by rw [c_ne (by omega)]; omega), m249 h ho q2 (by omega), mjBp_some, i3_sub, Int.toNat_natCast]
  · rw [if_neg (by decide), if_neg (by decide), if_neg (by decide), if_neg (by decide), if_neg (by decide), if_neg (by decide), if_neg (by decide), if_neg (by decide), if_pos (by decide), m_tr h, show (0 : Int32) = i3 0 from rfl]
    by_cases q : S 0 4 = 0
    · rw [show sFk S W a (sTe S a) (sSz S a) 7 = 0 from if_pos q, if_neg (by rw [c_ne (by omega)]; omega)]
    · rw [show sFk S W a (sTe S a) (sSz S a) 7 = S 0 1 + S 0 4 - sPl S (sTmA S a) (sTe S a) / 10 from if_neg q, if_pos (by rw [c_ne (by omega)]; exact q), m_tr h, show (10 : Int32) = i3 10 from rfl, i3_div (by omega), i3_add, i3_sub]
  · rfl
  · rfl
  · rfl
end FC
