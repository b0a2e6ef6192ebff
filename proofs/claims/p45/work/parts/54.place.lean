/-! WHO IS WHERE: the class's whereAt and the model's placeOf are sPl -/
theorem prod_bd {d w D W : Int} (h : 0 ≤ d ∧ d ≤ D ∧ 0 ≤ w ∧ w ≤ W) : 0 ≤ d * w ∧ d * w ≤ D * W :=
  ⟨Int.mul_nonneg h.1 h.2.2.1, Int.mul_le_mul h.2.1 h.2.2.2 h.2.2.1 (by omega)⟩
section PL
variable {Z : mjZt} {b : Nat} {S : mjS}
theorem eEn (h : cBk Z b S) (hd : cDr Z b S) (ho : okS S) {t l : Nat} (ht : t < sT S) (hl : l ≤ sTd S t) : f5_at (tmB b t + 3) (i3 l) Z = some (i3 (sEn S t l)) := by
  have o1 := ok_sc ho
  have o2 := ok_tm ho ht
  have o3 := is_tmr (b_b h) t (by omega) 2 (by omega)
  rw [e5 o3.1 o3.2 (by omega) (by omega), Int.toNat_natCast, d_en hd ht hl]
theorem eEn1 (h : cBk Z b S) (hd : cDr Z b S) (ho : okS S) {t l : Nat} (ht : t < sT S) (hl : l + 1 ≤ sTd S t) : f5_at (tmB b t + 3) (i3 ((l : Int) + 1)) Z = some (i3 (sEn S t (l + 1))) := eEn h hd ho ht hl
theorem ePs (h : cBk Z b S) (hd : cDr Z b S) (ho : okS S) {t l : Nat} (ht : t < sT S) (hl : l ≤ sTd S t) : f5_at (tmB b t + 4) (i3 l) Z = some (i3 (sPs S t l)) := by
  have o1 := ok_sc ho
  have o2 := ok_tm ho ht
  have o3 := is_tmr (b_b h) t (by omega) 3 (by omega)
  rw [e5 o3.1 o3.2 (by omega) (by omega), Int.toNat_natCast, d_ps hd ht hl]
theorem ePs1 (h : cBk Z b S) (hd : cDr Z b S) (ho : okS S) {t l : Nat} (ht : t < sT S) (hl : l + 1 ≤ sTd S t) : f5_at (tmB b t + 4) (i3 ((l : Int) + 1)) Z = some (i3 (sPs S t (l + 1))) := ePs h hd ho ht hl
theorem eTn1 (h : cBk Z b S) (ho : okS S) {t l : Nat} (ht : t < sT S) (hl : l < sTd S t) : f5_at (tmB b t + 1) (i3 ((l : Int) + 1)) Z = some (i3 (sTn S t l)) := by
  have o1 := ok_sc ho
  have o2 := ok_tm ho ht
  have o3 := is_tmr (b_b h) t (by omega) 0 (by omega)
  rw [e5 o3.1 o3.2 (by omega) (by omega), show ((l : Int) + 1).toNat = l + 1 by omega, b_tn h ht hl]
theorem eMt1 (h : cBk Z b S) (ho : okS S) {t l : Nat} (ht : t < sT S) (hl : l < sTd S t) : f5_at (tmB b t + 2) (i3 ((l : Int) + 1)) Z = some (i3 (sMt S t l)) := by
  have o1 := ok_sc ho
  have o2 := ok_tm ho ht
  have o3 := is_tmr (b_b h) t (by omega) 1 (by omega)
  rw [e5 o3.1 o3.2 (by omega) (by omega), show ((l : Int) + 1).toNat = l + 1 by omega, b_mt h ht hl]
theorem e72h (h : cBk Z b S) (hd : cDr Z b S) (ho : okS S) {t : Nat} (ht : t < sT S) {k : Int} (hk : -2147483648 ≤ k ∧ k ≤ 2147483647) : ∀ f l n, l + f = sTd S t - 1 → f < n → f72_legAt_h2 n (tmB b t) (i3 k) (i3 ((l : Int) + 1)) Z = some (i3 ((sLaF S t k f l : Int) + 1))
  | f, l, 0, _, hn => by omega
  | 0, l, n + 1, hf, _ => by
    have o1 := ok_sc ho
    have o2 := ok_tm ho ht
    rw [f72_legAt_h2, sLaF]
    simp (disch := omega) only [let_eq, mjBp_some, mjBd_some, n_0, n_1, n_2, n_3, n_4, n_5, n_6, n_7, n_8, n_9, n_10, n_11, n_12, n_13, n_16, n_20, n_21, n_22, n_23, n_30, n_31, n_32, n_40, n_41, n_42, n_43, n_45, n_48, n_50, n_51, n_52, n_57, n_59, n_60, n_61, n_62, n_63, n_72, n_97, n_99, n_100, n_108, n_120, n_122, n_123, n_125, n_127, n_180, n_255, n_400, n_700, n_999, n_9999, n_2000000, n_2147483647, i3_add, i3_sub, i3_mul, i3_neg, i3_div, max_i3, min_i3, i6_add, i6_sub, i6_mul, i6_neg, c_lt_t, c_lt_f, c_ge_t, c_ge_f, c_gt_t, c_gt_f, c_le_t, c_le_f, c_eq_t, c_eq_f, c_ne_t, c_ne_f, in_t, i3_ofNat, ↓reduceIte, or_true, true_or, or_false, false_or, and_true, true_and, and_false, false_and, decide_true, decide_false, Bool.false_eq_true, not_true_eq_false, not_false_eq_true, Bool.true_and, Bool.false_and, Bool.and_true, Bool.and_false, Bool.true_or, Bool.false_or, Bool.or_true, Bool.or_false, e3_t, e3_f, sw_t, sw_f, sj_t, sj_f, i36, lg6_lt, lg6_eq, lg6_gt, Int.add_sub_cancel, l_0, l_1, l_2, l_3, l_4, l_5, l_10, l_9999, is_tm (b_b h), b_td h ht]
    congr 2
    omega
  | f + 1, l, n + 1, hf, hn => by
    have o1 := ok_sc ho
    have o2 := ok_tm ho ht
    have ih := e72h h hd ho ht hk f (l + 1) n (by omega) (by omega)
    have b1 := en_bd ho ht (l + 1) (by omega)
    rw [f72_legAt_h2, sLaF]
    by_cases hq : sEn S t (l + 1) < k
    · rw [if_pos hq]
      simp (disch := omega) only [let_eq, mjBp_some, mjBd_some, n_0, n_1, n_2, n_3, n_4, n_5, n_6, n_7, n_8, n_9, n_10, n_11, n_12, n_13, n_16, n_20, n_21, n_22, n_23, n_30, n_31, n_32, n_40, n_41, n_42, n_43, n_45, n_48, n_50, n_51, n_52, n_57, n_59, n_60, n_61, n_62, n_63, n_72, n_97, n_99, n_100, n_108, n_120, n_122, n_123, n_125, n_127, n_180, n_255, n_400, n_700, n_999, n_9999, n_2000000, n_2147483647, i3_add, i3_sub, i3_mul, i3_neg, i3_div, max_i3, min_i3, i6_add, i6_sub, i6_mul, i6_neg, c_lt_t, c_lt_f, c_ge_t, c_ge_f, c_gt_t, c_gt_f, c_le_t, c_le_f, c_eq_t, c_eq_f, c_ne_t, c_ne_f, in_t, i3_ofNat, ↓reduceIte, or_true, true_or, or_false, false_or, and_true, true_and, and_false, false_and, decide_true, decide_false, Bool.false_eq_true, not_true_eq_false, not_false_eq_true, Bool.true_and, Bool.false_and, Bool.and_true, Bool.and_false, Bool.true_or, Bool.false_or, Bool.or_true, Bool.or_false, e3_t, e3_f, sw_t, sw_f, sj_t, sj_f, i36, lg6_lt, lg6_eq, lg6_gt, Int.add_sub_cancel, l_0, l_1, l_2, l_3, l_4, l_5, l_10, l_9999, is_tm (b_b h), b_td h ht, eEn1 h hd ho ht]
      exact ih
    · rw [if_neg hq]
      simp (disch := omega) only [let_eq, mjBp_some, mjBd_some, n_0, n_1, n_2, n_3, n_4, n_5, n_6, n_7, n_8, n_9, n_10, n_11, n_12, n_13, n_16, n_20, n_21, n_22, n_23, n_30, n_31, n_32, n_40, n_41, n_42, n_43, n_45, n_48, n_50, n_51, n_52, n_57, n_59, n_60, n_61, n_62, n_63, n_72, n_97, n_99, n_100, n_108, n_120, n_122, n_123, n_125, n_127, n_180, n_255, n_400, n_700, n_999, n_9999, n_2000000, n_2147483647, i3_add, i3_sub, i3_mul, i3_neg, i3_div, max_i3, min_i3, i6_add, i6_sub, i6_mul, i6_neg, c_lt_t, c_lt_f, c_ge_t, c_ge_f, c_gt_t, c_gt_f, c_le_t, c_le_f, c_eq_t, c_eq_f, c_ne_t, c_ne_f, in_t, i3_ofNat, ↓reduceIte, or_true, true_or, or_false, false_or, and_true, true_and, and_false, false_and, decide_true, decide_false, Bool.false_eq_true, not_true_eq_false, not_false_eq_true, Bool.true_and, Bool.false_and, Bool.and_true, Bool.and_false, Bool.true_or, Bool.false_or, Bool.or_true, Bool.or_false, e3_t, e3_f, sw_t, sw_f, sj_t, sj_f, i36, lg6_lt, lg6_eq, lg6_gt, Int.add_sub_cancel, l_0, l_1, l_2, l_3, l_4, l_5, l_10, l_9999, is_tm (b_b h), b_td h ht, eEn1 h hd ho ht]
theorem e72 (h : cBk Z b S) (hd : cDr Z b S) (ho : okS S) {t : Nat} (ht : t < sT S) {k : Int} (hk : -2147483648 ≤ k ∧ k ≤ 2147483647) : f72_legAt (tmB b t) (i3 k) Z = some (i3 ((sLa S t k : Int) + 1)) := by
  have o1 := ok_sc ho
  have o2 := ok_tm ho ht
  exact e72h h hd ho ht hk (sTd S t - 1) 0 mjF (by omega) (by unfold mjF; omega)
theorem e73 (h : cBk Z b S) (hd : cDr Z b S) (ho : okS S) {t : Nat} (ht : t < sT S) {k : Int} (hk : 0 ≤ k ∧ k ≤ 2147483647) : f73_whereAt (tmB b t) (i3 k) Z = some (i3 (sPl S t k)) := by
  have o1 := ok_sc ho
  have o2 := ok_tm ho ht
  have o3 := is_tmr (b_b h) t (by omega) 0 (by omega)
  have o4 := (la_spec S t k).1
  unfold f73_whereAt f73_whereAt_j41
  by_cases h0 : sTd S t = 0
  · rw [pl_zero (Or.inl h0)]
    simp (disch := omega) only [let_eq, mjBp_some, mjBd_some, n_0, n_1, n_2, n_3, n_4, n_5, n_6, n_7, n_8, n_9, n_10, n_11, n_12, n_13, n_16, n_20, n_21, n_22, n_23, n_30, n_31, n_32, n_40, n_41, n_42, n_43, n_45, n_48, n_50, n_51, n_52, n_57, n_59, n_60, n_61, n_62, n_63, n_72, n_97, n_99, n_100, n_108, n_120, n_122, n_123, n_125, n_127, n_180, n_255, n_400, n_700, n_999, n_9999, n_2000000, n_2147483647, i3_add, i3_sub, i3_mul, i3_neg, i3_div, max_i3, min_i3, i6_add, i6_sub, i6_mul, i6_neg, c_lt_t, c_lt_f, c_ge_t, c_ge_f, c_gt_t, c_gt_f, c_le_t, c_le_f, c_eq_t, c_eq_f, c_ne_t, c_ne_f, in_t, i3_ofNat, ↓reduceIte, or_true, true_or, or_false, false_or, and_true, true_and, and_false, false_and, decide_true, decide_false, Bool.false_eq_true, not_true_eq_false, not_false_eq_true, Bool.true_and, Bool.false_and, Bool.and_true, Bool.and_false, Bool.true_or, Bool.false_or, Bool.or_true, Bool.or_false, e3_t, e3_f, sw_t, sw_f, sj_t, sj_f, i36, lg6_lt, lg6_eq, lg6_gt, Int.add_sub_cancel, l_0, l_1, l_2, l_3, l_4, l_5, l_10, l_9999, is_tm (b_b h), b_td h ht, e72 h hd ho ht, e5 o3.1 o3.2]
  · have b1 := en_bd ho ht (sTd S t) (Nat.le_refl _)
    have b2 := ok_leg ho ht (l := sLa S t k) (by omega)
    by_cases h1 : sEn S t (sTd S t) ≤ k
    · rw [pl_end ho ht (by omega) h1]
      simp (disch := omega) only [let_eq, mjBp_some, mjBd_some, n_0, n_1, n_2, n_3, n_4, n_5, n_6, n_7, n_8, n_9, n_10, n_11, n_12, n_13, n_16, n_20, n_21, n_22, n_23, n_30, n_31, n_32, n_40, n_41, n_42, n_43, n_45, n_48, n_50, n_51, n_52, n_57, n_59, n_60, n_61, n_62, n_63, n_72, n_97, n_99, n_100, n_108, n_120, n_122, n_123, n_125, n_127, n_180, n_255, n_400, n_700, n_999, n_9999, n_2000000, n_2147483647, i3_add, i3_sub, i3_mul, i3_neg, i3_div, max_i3, min_i3, i6_add, i6_sub, i6_mul, i6_neg, c_lt_t, c_lt_f, c_ge_t, c_ge_f, c_gt_t, c_gt_f, c_le_t, c_le_f, c_eq_t, c_eq_f, c_ne_t, c_ne_f, in_t, i3_ofNat, ↓reduceIte, or_true, true_or, or_false, false_or, and_true, true_and, and_false, false_and, decide_true, decide_false, Bool.false_eq_true, not_true_eq_false, not_false_eq_true, Bool.true_and, Bool.false_and, Bool.and_true, Bool.and_false, Bool.true_or, Bool.false_or, Bool.or_true, Bool.or_false, e3_t, e3_f, sw_t, sw_f, sj_t, sj_f, i36, lg6_lt, lg6_eq, lg6_gt, Int.add_sub_cancel, l_0, l_1, l_2, l_3, l_4, l_5, l_10, l_9999, is_tm (b_b h), b_td h ht, e72 h hd ho ht, eTn1 h ho ht, eEn h hd ho ht, ePs h hd ho ht]
    · have b3 := ps_step ho ht (l := sLa S t k) (by omega)
      have b4 := ps_bd ho ht (sLa S t k) (by omega)
      have b5 := en_bd ho ht (sLa S t k) (by omega)
      have key : 0 ≤ max (k - sEn S t (sLa S t k)) 0 ∧ max (k - sEn S t (sLa S t k)) 0 ≤ 999 ∧ sPl S t k = sPs S t (sLa S t k) + (max (k - sEn S t (sLa S t k)) 0) * (sPs S t (sLa S t k + 1) - sPs S t (sLa S t k)) / sTn S t (sLa S t k) := by
        rcases pl_cases ho ht k with q | ⟨l, hl, q0, q1, q2⟩ | ⟨_, _, q1⟩
        · have q3 : k = 0 := by omega
          have e0 : sLa S t k = 0 := la_leg ho ht (l := 0) (by omega) (Or.inl rfl) (Or.inl (by have := (en_bd ho ht 1 (by omega)).1; simp only [Nat.zero_add]; omega))
          rw [pl_zero q, e0, q3]
          simp [sEn, sPs]
        · have e0 := la_leg ho ht hl (Or.inr q1) (Or.inl q2)
          rw [pl_leg ho ht hl q0 q1 q2, e0, Int.max_eq_left (by omega)]
          rw [sEn] at q2
          rw [e0] at b2
          exact ⟨by omega, by omega, rfl⟩
        · omega
      obtain ⟨k1, k2, k3⟩ := key
      have b6 := prod_bd (d := max (k - sEn S t (sLa S t k)) 0) (w := sPs S t (sLa S t k + 1) - sPs S t (sLa S t k)) (D := 999) (W := 4400) (by omega)
      rw [k3]
      simp (disch := omega) only [let_eq, mjBp_some, mjBd_some, n_0, n_1, n_2, n_3, n_4, n_5, n_6, n_7, n_8, n_9, n_10, n_11, n_12, n_13, n_16, n_20, n_21, n_22, n_23, n_30, n_31, n_32, n_40, n_41, n_42, n_43, n_45, n_48, n_50, n_51, n_52, n_57, n_59, n_60, n_61, n_62, n_63, n_72, n_97, n_99, n_100, n_108, n_120, n_122, n_123, n_125, n_127, n_180, n_255, n_400, n_700, n_999, n_9999, n_2000000, n_2147483647, i3_add, i3_sub, i3_mul, i3_neg, i3_div, max_i3, min_i3, i6_add, i6_sub, i6_mul, i6_neg, c_lt_t, c_lt_f, c_ge_t, c_ge_f, c_gt_t, c_gt_f, c_le_t, c_le_f, c_eq_t, c_eq_f, c_ne_t, c_ne_f, in_t, i3_ofNat, ↓reduceIte, or_true, true_or, or_false, false_or, and_true, true_and, and_false, false_and, decide_true, decide_false, Bool.false_eq_true, not_true_eq_false, not_false_eq_true, Bool.true_and, Bool.false_and, Bool.and_true, Bool.and_false, Bool.true_or, Bool.false_or, Bool.or_true, Bool.or_false, e3_t, e3_f, sw_t, sw_f, sj_t, sj_f, i36, lg6_lt, lg6_eq, lg6_gt, Int.add_sub_cancel, l_0, l_1, l_2, l_3, l_4, l_5, l_10, l_9999, Int.add_sub_cancel, is_tm (b_b h), b_td h ht, e72 h hd ho ht, eTn1 h ho ht, eEn h hd ho ht, ePs h hd ho ht, ePs1 h hd ho ht, i3_inj]
theorem e73n (h : cBk Z b S) (k : Int32) : f73_whereAt (b + 12) k Z = some (i3 0) := by
  have o3 := is_b12r (b_b h) 0 (by omega)
  have e6 : Z.1 (b + 12) 6 = i3 0 := by rw [b_no h (j := 0) (by omega)]; rfl
  have e1 : f72_legAt (b + 12) k Z = some (i3 1) := by
    unfold f72_legAt
    rw [show mjF = 19999 + 1 from rfl, f72_legAt_h2]
    simp (disch := omega) only [let_eq, mjBp_some, mjBd_some, n_0, n_1, n_2, n_3, n_4, n_5, n_6, n_7, n_8, n_9, n_10, n_11, n_12, n_13, n_16, n_20, n_21, n_22, n_23, n_30, n_31, n_32, n_40, n_41, n_42, n_43, n_45, n_48, n_50, n_51, n_52, n_57, n_59, n_60, n_61, n_62, n_63, n_72, n_97, n_99, n_100, n_108, n_120, n_122, n_123, n_125, n_127, n_180, n_255, n_400, n_700, n_999, n_9999, n_2000000, n_2147483647, i3_add, i3_sub, i3_mul, i3_neg, i3_div, max_i3, min_i3, i6_add, i6_sub, i6_mul, i6_neg, c_lt_t, c_lt_f, c_ge_t, c_ge_f, c_gt_t, c_gt_f, c_le_t, c_le_f, c_eq_t, c_eq_f, c_ne_t, c_ne_f, in_t, i3_ofNat, ↓reduceIte, or_true, true_or, or_false, false_or, and_true, true_and, and_false, false_and, decide_true, decide_false, Bool.false_eq_true, not_true_eq_false, not_false_eq_true, Bool.true_and, Bool.false_and, Bool.and_true, Bool.and_false, Bool.true_or, Bool.false_or, Bool.or_true, Bool.or_false, e3_t, e3_f, sw_t, sw_f, sj_t, sj_f, i36, lg6_lt, lg6_eq, lg6_gt, Int.add_sub_cancel, l_0, l_1, l_2, l_3, l_4, l_5, l_10, l_9999, is_b12 (b_b h), e6]
    rfl
  unfold f73_whereAt f73_whereAt_j41
  simp (disch := omega) only [let_eq, mjBp_some, mjBd_some, n_0, n_1, n_2, n_3, n_4, n_5, n_6, n_7, n_8, n_9, n_10, n_11, n_12, n_13, n_16, n_20, n_21, n_22, n_23, n_30, n_31, n_32, n_40, n_41, n_42, n_43, n_45, n_48, n_50, n_51, n_52, n_57, n_59, n_60, n_61, n_62, n_63, n_72, n_97, n_99, n_100, n_108, n_120, n_122, n_123, n_125, n_127, n_180, n_255, n_400, n_700, n_999, n_9999, n_2000000, n_2147483647, i3_add, i3_sub, i3_mul, i3_neg, i3_div, max_i3, min_i3, i6_add, i6_sub, i6_mul, i6_neg, c_lt_t, c_lt_f, c_ge_t, c_ge_f, c_gt_t, c_gt_f, c_le_t, c_le_f, c_eq_t, c_eq_f, c_ne_t, c_ne_f, in_t, i3_ofNat, ↓reduceIte, or_true, true_or, or_false, false_or, and_true, true_and, and_false, false_and, decide_true, decide_false, Bool.false_eq_true, not_true_eq_false, not_false_eq_true, Bool.true_and, Bool.false_and, Bool.and_true, Bool.and_false, Bool.true_or, Bool.false_or, Bool.or_true, Bool.or_false, e3_t, e3_f, sw_t, sw_f, sj_t, sj_f, i36, lg6_lt, lg6_eq, lg6_gt, Int.add_sub_cancel, l_0, l_1, l_2, l_3, l_4, l_5, l_10, l_9999, is_b12 (b_b h), e6, e1, e5 o3.1 o3.2]
/-! the model -/
theorem m242 (h : mRep Z S) {t l : Nat} (ht : t < 6) (hl : l < 6) : f242_tenthsOf (i3 t) (i3 l) Z = some (i3 (sTn S t l)) := by
  unfold f242_tenthsOf
  simp (disch := omega) only [let_eq, mjBp_some, mjBd_some, n_0, n_1, n_2, n_3, n_4, n_5, n_6, n_7, n_8, n_9, n_10, n_11, n_12, n_13, n_16, n_20, n_21, n_22, n_23, n_30, n_31, n_32, n_40, n_41, n_42, n_43, n_45, n_48, n_50, n_51, n_52, n_57, n_59, n_60, n_61, n_62, n_63, n_72, n_97, n_99, n_100, n_108, n_120, n_122, n_123, n_125, n_127, n_180, n_255, n_400, n_700, n_999, n_9999, n_2000000, n_2147483647, i3_add, i3_sub, i3_mul, i3_neg, i3_div, max_i3, min_i3, i6_add, i6_sub, i6_mul, i6_neg, c_lt_t, c_lt_f, c_ge_t, c_ge_f, c_gt_t, c_gt_f, c_le_t, c_le_f, c_eq_t, c_eq_f, c_ne_t, c_ne_f, in_t, i3_ofNat, ↓reduceIte, or_true, true_or, or_false, false_or, and_true, true_and, and_false, false_and, decide_true, decide_false, Bool.false_eq_true, not_true_eq_false, not_false_eq_true, Bool.true_and, Bool.false_and, Bool.and_true, Bool.and_false, Bool.true_or, Bool.false_or, Bool.or_true, Bool.or_false, e3_t, e3_f, sw_t, sw_f, sj_t, sj_f, i36, lg6_lt, lg6_eq, lg6_gt, Int.add_sub_cancel, l_0, l_1, l_2, l_3, l_4, l_5, l_10, l_9999, ix_i3, m_nw h]
  rw [show (12 * (t : Int) + 2 * l).toNat = 12 * t + 2 * l by omega]
  rfl
theorem m243 (h : mRep Z S) {t l : Nat} (ht : t < 6) (hl : l < 6) : f243_metresOf (i3 t) (i3 l) Z = some (i3 (sMt S t l)) := by
  unfold f243_metresOf
  simp (disch := omega) only [let_eq, mjBp_some, mjBd_some, n_0, n_1, n_2, n_3, n_4, n_5, n_6, n_7, n_8, n_9, n_10, n_11, n_12, n_13, n_16, n_20, n_21, n_22, n_23, n_30, n_31, n_32, n_40, n_41, n_42, n_43, n_45, n_48, n_50, n_51, n_52, n_57, n_59, n_60, n_61, n_62, n_63, n_72, n_97, n_99, n_100, n_108, n_120, n_122, n_123, n_125, n_127, n_180, n_255, n_400, n_700, n_999, n_9999, n_2000000, n_2147483647, i3_add, i3_sub, i3_mul, i3_neg, i3_div, max_i3, min_i3, i6_add, i6_sub, i6_mul, i6_neg, c_lt_t, c_lt_f, c_ge_t, c_ge_f, c_gt_t, c_gt_f, c_le_t, c_le_f, c_eq_t, c_eq_f, c_ne_t, c_ne_f, in_t, i3_ofNat, ↓reduceIte, or_true, true_or, or_false, false_or, and_true, true_and, and_false, false_and, decide_true, decide_false, Bool.false_eq_true, not_true_eq_false, not_false_eq_true, Bool.true_and, Bool.false_and, Bool.and_true, Bool.and_false, Bool.true_or, Bool.false_or, Bool.or_true, Bool.or_false, e3_t, e3_f, sw_t, sw_f, sj_t, sj_f, i36, lg6_lt, lg6_eq, lg6_gt, Int.add_sub_cancel, l_0, l_1, l_2, l_3, l_4, l_5, l_10, l_9999, ix_i3, m_nw h]
  rw [show (12 * (t : Int) + 2 * l + 1).toNat = 12 * t + 2 * l + 1 by omega]
  rfl
theorem m244 (h : mRep Z S) {t l : Nat} (ht : t < 6) (hl : l < 6) : f244_endPlace (i3 t) (i3 l) Z = some (i3 (sPs S t (l + 1))) := by
  unfold f244_endPlace
  simp (disch := omega) only [let_eq, mjBp_some, mjBd_some, n_0, n_1, n_2, n_3, n_4, n_5, n_6, n_7, n_8, n_9, n_10, n_11, n_12, n_13, n_16, n_20, n_21, n_22, n_23, n_30, n_31, n_32, n_40, n_41, n_42, n_43, n_45, n_48, n_50, n_51, n_52, n_57, n_59, n_60, n_61, n_62, n_63, n_72, n_97, n_99, n_100, n_108, n_120, n_122, n_123, n_125, n_127, n_180, n_255, n_400, n_700, n_999, n_9999, n_2000000, n_2147483647, i3_add, i3_sub, i3_mul, i3_neg, i3_div, max_i3, min_i3, i6_add, i6_sub, i6_mul, i6_neg, c_lt_t, c_lt_f, c_ge_t, c_ge_f, c_gt_t, c_gt_f, c_le_t, c_le_f, c_eq_t, c_eq_f, c_ne_t, c_ne_f, in_t, i3_ofNat, ↓reduceIte, or_true, true_or, or_false, false_or, and_true, true_and, and_false, false_and, decide_true, decide_false, Bool.false_eq_true, not_true_eq_false, not_false_eq_true, Bool.true_and, Bool.false_and, Bool.and_true, Bool.and_false, Bool.true_or, Bool.false_or, Bool.or_true, Bool.or_false, e3_t, e3_f, sw_t, sw_f, sj_t, sj_f, i36, lg6_lt, lg6_eq, lg6_gt, Int.add_sub_cancel, l_0, l_1, l_2, l_3, l_4, l_5, l_10, l_9999, m243 h ht hl, m_tr h, sPs]
theorem m244p (h : mRep Z S) {t l : Nat} (ht : t < 6) (hl : l ≤ 6) : f244_endPlace (i3 t) (i3 ((l : Int) - 1)) Z = some (i3 (sPs S t l)) := by
  cases l with
  | zero =>
    unfold f244_endPlace
    simp (disch := omega) only [let_eq, mjBp_some, mjBd_some, n_0, n_1, n_2, n_3, n_4, n_5, n_6, n_7, n_8, n_9, n_10, n_11, n_12, n_13, n_16, n_20, n_21, n_22, n_23, n_30, n_31, n_32, n_40, n_41, n_42, n_43, n_45, n_48, n_50, n_51, n_52, n_57, n_59, n_60, n_61, n_62, n_63, n_72, n_97, n_99, n_100, n_108, n_120, n_122, n_123, n_125, n_127, n_180, n_255, n_400, n_700, n_999, n_9999, n_2000000, n_2147483647, i3_add, i3_sub, i3_mul, i3_neg, i3_div, max_i3, min_i3, i6_add, i6_sub, i6_mul, i6_neg, c_lt_t, c_lt_f, c_ge_t, c_ge_f, c_gt_t, c_gt_f, c_le_t, c_le_f, c_eq_t, c_eq_f, c_ne_t, c_ne_f, in_t, i3_ofNat, ↓reduceIte, or_true, true_or, or_false, false_or, and_true, true_and, and_false, false_and, decide_true, decide_false, Bool.false_eq_true, not_true_eq_false, not_false_eq_true, Bool.true_and, Bool.false_and, Bool.and_true, Bool.and_false, Bool.true_or, Bool.false_or, Bool.or_true, Bool.or_false, e3_t, e3_f, sw_t, sw_f, sj_t, sj_f, i36, lg6_lt, lg6_eq, lg6_gt, Int.add_sub_cancel, l_0, l_1, l_2, l_3, l_4, l_5, l_10, l_9999, sPs]
  | succ l =>
    have := m244 h ht (l := l) (by omega)
    rw [show (((l + 1 : Nat) : Int) - 1) = (l : Int) by omega]
    exact this
theorem m245h (h : mRep Z S) {t l : Nat} (ht : t < 6) (hl : l ≤ 6) : ∀ f i n, i + f = l → f < n → f245_endTenth_h5 n (i3 t) (i3 ((l : Int) - 1)) (i3 (sEn S t i)) (i3 i) Z = some (i3 (sEn S t l))
  | f, i, 0, _, hn => by omega
  | 0, i, n + 1, hf, _ => by
    obtain rfl : i = l := by omega
    rw [f245_endTenth_h5]
    simp (disch := omega) only [let_eq, mjBp_some, mjBd_some, n_0, n_1, n_2, n_3, n_4, n_5, n_6, n_7, n_8, n_9, n_10, n_11, n_12, n_13, n_16, n_20, n_21, n_22, n_23, n_30, n_31, n_32, n_40, n_41, n_42, n_43, n_45, n_48, n_50, n_51, n_52, n_57, n_59, n_60, n_61, n_62, n_63, n_72, n_97, n_99, n_100, n_108, n_120, n_122, n_123, n_125, n_127, n_180, n_255, n_400, n_700, n_999, n_9999, n_2000000, n_2147483647, i3_add, i3_sub, i3_mul, i3_neg, i3_div, max_i3, min_i3, i6_add, i6_sub, i6_mul, i6_neg, c_lt_t, c_lt_f, c_ge_t, c_ge_f, c_gt_t, c_gt_f, c_le_t, c_le_f, c_eq_t, c_eq_f, c_ne_t, c_ne_f, in_t, i3_ofNat, ↓reduceIte, or_true, true_or, or_false, false_or, and_true, true_and, and_false, false_and, decide_true, decide_false, Bool.false_eq_true, not_true_eq_false, not_false_eq_true, Bool.true_and, Bool.false_and, Bool.and_true, Bool.and_false, Bool.true_or, Bool.false_or, Bool.or_true, Bool.or_false, e3_t, e3_f, sw_t, sw_f, sj_t, sj_f, i36, lg6_lt, lg6_eq, lg6_gt, Int.add_sub_cancel, l_0, l_1, l_2, l_3, l_4, l_5, l_10, l_9999]
  | f + 1, i, n + 1, hf, hn => by
    have ih := m245h h ht hl f (i + 1) n (by omega) (by omega)
    rw [f245_endTenth_h5]
    simp (disch := omega) only [let_eq, mjBp_some, mjBd_some, n_0, n_1, n_2, n_3, n_4, n_5, n_6, n_7, n_8, n_9, n_10, n_11, n_12, n_13, n_16, n_20, n_21, n_22, n_23, n_30, n_31, n_32, n_40, n_41, n_42, n_43, n_45, n_48, n_50, n_51, n_52, n_57, n_59, n_60, n_61, n_62, n_63, n_72, n_97, n_99, n_100, n_108, n_120, n_122, n_123, n_125, n_127, n_180, n_255, n_400, n_700, n_999, n_9999, n_2000000, n_2147483647, i3_add, i3_sub, i3_mul, i3_neg, i3_div, max_i3, min_i3, i6_add, i6_sub, i6_mul, i6_neg, c_lt_t, c_lt_f, c_ge_t, c_ge_f, c_gt_t, c_gt_f, c_le_t, c_le_f, c_eq_t, c_eq_f, c_ne_t, c_ne_f, in_t, i3_ofNat, ↓reduceIte, or_true, true_or, or_false, false_or, and_true, true_and, and_false, false_and, decide_true, decide_false, Bool.false_eq_true, not_true_eq_false, not_false_eq_true, Bool.true_and, Bool.false_and, Bool.and_true, Bool.and_false, Bool.true_or, Bool.false_or, Bool.or_true, Bool.or_false, e3_t, e3_f, sw_t, sw_f, sj_t, sj_f, i36, lg6_lt, lg6_eq, lg6_gt, Int.add_sub_cancel, l_0, l_1, l_2, l_3, l_4, l_5, l_10, l_9999, m242 h ht]
    exact ih
theorem m245p (h : mRep Z S) {t l : Nat} (ht : t < 6) (hl : l ≤ 6) : f245_endTenth (i3 t) (i3 ((l : Int) - 1)) Z = some (i3 (sEn S t l)) := m245h h ht hl l 0 mjF (by omega) (by unfold mjF; omega)
theorem m245 (h : mRep Z S) {t l : Nat} (ht : t < 6) (hl : l < 6) : f245_endTenth (i3 t) (i3 l) Z = some (i3 (sEn S t (l + 1))) := by
  have := m245p h ht (l := l + 1) (by omega)
  rwa [show (((l + 1 : Nat) : Int) - 1) = (l : Int) by omega] at this
theorem m246 (h : mRep Z S) (ho : okS S) {t : Nat} (ht : t < sT S) : f246_timeOf (i3 t) Z = some (i3 (sTm S t)) := by
  have o1 := ok_sc ho
  have o2 := ok_tm ho ht
  unfold f246_timeOf
  simp (disch := omega) only [let_eq, mjBp_some, mjBd_some, n_0, n_1, n_2, n_3, n_4, n_5, n_6, n_7, n_8, n_9, n_10, n_11, n_12, n_13, n_16, n_20, n_21, n_22, n_23, n_30, n_31, n_32, n_40, n_41, n_42, n_43, n_45, n_48, n_50, n_51, n_52, n_57, n_59, n_60, n_61, n_62, n_63, n_72, n_97, n_99, n_100, n_108, n_120, n_122, n_123, n_125, n_127, n_180, n_255, n_400, n_700, n_999, n_9999, n_2000000, n_2147483647, i3_add, i3_sub, i3_mul, i3_neg, i3_div, max_i3, min_i3, i6_add, i6_sub, i6_mul, i6_neg, c_lt_t, c_lt_f, c_ge_t, c_ge_f, c_gt_t, c_gt_f, c_le_t, c_le_f, c_eq_t, c_eq_f, c_ne_t, c_ne_f, in_t, i3_ofNat, ↓reduceIte, or_true, true_or, or_false, false_or, and_true, true_and, and_false, false_and, decide_true, decide_false, Bool.false_eq_true, not_true_eq_false, not_false_eq_true, Bool.true_and, Bool.false_and, Bool.and_true, Bool.and_false, Bool.true_or, Bool.false_or, Bool.or_true, Bool.or_false, e3_t, e3_f, sw_t, sw_f, sj_t, sj_f, i36, lg6_lt, lg6_eq, lg6_gt, Int.add_sub_cancel, l_0, l_1, l_2, l_3, l_4, l_5, l_10, l_9999, ix_nat, m_td h ho ht, m245p h]
  rfl
theorem m247 (h : mRep Z S) (ho : okS S) {t : Nat} (ht : t < sT S) : f247_isWhole (i3 t) Z = some (i3 (if sTd S t = sLg S then 1 else 0)) := by
  have o1 := ok_sc ho
  have o2 := ok_tm ho ht
  unfold f247_isWhole
  by_cases hq : sTd S t = sLg S
  · rw [if_pos hq]
    simp (disch := omega) only [let_eq, mjBp_some, mjBd_some, n_0, n_1, n_2, n_3, n_4, n_5, n_6, n_7, n_8, n_9, n_10, n_11, n_12, n_13, n_16, n_20, n_21, n_22, n_23, n_30, n_31, n_32, n_40, n_41, n_42, n_43, n_45, n_48, n_50, n_51, n_52, n_57, n_59, n_60, n_61, n_62, n_63, n_72, n_97, n_99, n_100, n_108, n_120, n_122, n_123, n_125, n_127, n_180, n_255, n_400, n_700, n_999, n_9999, n_2000000, n_2147483647, i3_add, i3_sub, i3_mul, i3_neg, i3_div, max_i3, min_i3, i6_add, i6_sub, i6_mul, i6_neg, c_lt_t, c_lt_f, c_ge_t, c_ge_f, c_gt_t, c_gt_f, c_le_t, c_le_f, c_eq_t, c_eq_f, c_ne_t, c_ne_f, in_t, i3_ofNat, ↓reduceIte, or_true, true_or, or_false, false_or, and_true, true_and, and_false, false_and, decide_true, decide_false, Bool.false_eq_true, not_true_eq_false, not_false_eq_true, Bool.true_and, Bool.false_and, Bool.and_true, Bool.and_false, Bool.true_or, Bool.false_or, Bool.or_true, Bool.or_false, e3_t, e3_f, sw_t, sw_f, sj_t, sj_f, i36, lg6_lt, lg6_eq, lg6_gt, Int.add_sub_cancel, l_0, l_1, l_2, l_3, l_4, l_5, l_10, l_9999, ix_nat, m_td h ho ht, m_tr h, ok_lg ho]
  · rw [if_neg hq]
    simp (disch := omega) only [let_eq, mjBp_some, mjBd_some, n_0, n_1, n_2, n_3, n_4, n_5, n_6, n_7, n_8, n_9, n_10, n_11, n_12, n_13, n_16, n_20, n_21, n_22, n_23, n_30, n_31, n_32, n_40, n_41, n_42, n_43, n_45, n_48, n_50, n_51, n_52, n_57, n_59, n_60, n_61, n_62, n_63, n_72, n_97, n_99, n_100, n_108, n_120, n_122, n_123, n_125, n_127, n_180, n_255, n_400, n_700, n_999, n_9999, n_2000000, n_2147483647, i3_add, i3_sub, i3_mul, i3_neg, i3_div, max_i3, min_i3, i6_add, i6_sub, i6_mul, i6_neg, c_lt_t, c_lt_f, c_ge_t, c_ge_f, c_gt_t, c_gt_f, c_le_t, c_le_f, c_eq_t, c_eq_f, c_ne_t, c_ne_f, in_t, i3_ofNat, ↓reduceIte, or_true, true_or, or_false, false_or, and_true, true_and, and_false, false_and, decide_true, decide_false, Bool.false_eq_true, not_true_eq_false, not_false_eq_true, Bool.true_and, Bool.false_and, Bool.and_true, Bool.and_false, Bool.true_or, Bool.false_or, Bool.or_true, Bool.or_false, e3_t, e3_f, sw_t, sw_f, sj_t, sj_f, i36, lg6_lt, lg6_eq, lg6_gt, Int.add_sub_cancel, l_0, l_1, l_2, l_3, l_4, l_5, l_10, l_9999, ix_nat, m_td h ho ht, m_tr h, ok_lg ho]
theorem m248h (h : mRep Z S) (ho : okS S) {t : Nat} (ht : t < sT S) {k : Int} (hk : -2147483648 ≤ k ∧ k ≤ 2147483647) : ∀ f l n, l + f = sTd S t - 1 → f < n → f248_legAt_h2 n (i3 t) (i3 k) (i3 l) Z = some (i3 (sLaF S t k f l : Int))
  | f, l, 0, _, hn => by omega
  | 0, l, n + 1, hf, _ => by
    have o1 := ok_sc ho
    have o2 := ok_tm ho ht
    rw [f248_legAt_h2, sLaF]
    simp (disch := omega) only [let_eq, mjBp_some, mjBd_some, n_0, n_1, n_2, n_3, n_4, n_5, n_6, n_7, n_8, n_9, n_10, n_11, n_12, n_13, n_16, n_20, n_21, n_22, n_23, n_30, n_31, n_32, n_40, n_41, n_42, n_43, n_45, n_48, n_50, n_51, n_52, n_57, n_59, n_60, n_61, n_62, n_63, n_72, n_97, n_99, n_100, n_108, n_120, n_122, n_123, n_125, n_127, n_180, n_255, n_400, n_700, n_999, n_9999, n_2000000, n_2147483647, i3_add, i3_sub, i3_mul, i3_neg, i3_div, max_i3, min_i3, i6_add, i6_sub, i6_mul, i6_neg, c_lt_t, c_lt_f, c_ge_t, c_ge_f, c_gt_t, c_gt_f, c_le_t, c_le_f, c_eq_t, c_eq_f, c_ne_t, c_ne_f, in_t, i3_ofNat, ↓reduceIte, or_true, true_or, or_false, false_or, and_true, true_and, and_false, false_and, decide_true, decide_false, Bool.false_eq_true, not_true_eq_false, not_false_eq_true, Bool.true_and, Bool.false_and, Bool.and_true, Bool.and_false, Bool.true_or, Bool.false_or, Bool.or_true, Bool.or_false, e3_t, e3_f, sw_t, sw_f, sj_t, sj_f, i36, lg6_lt, lg6_eq, lg6_gt, Int.add_sub_cancel, l_0, l_1, l_2, l_3, l_4, l_5, l_10, l_9999, ix_nat, m_td h ho ht]
  | f + 1, l, n + 1, hf, hn => by
    have o1 := ok_sc ho
    have o2 := ok_tm ho ht
    have ih := m248h h ho ht hk f (l + 1) n (by omega) (by omega)
    have b1 := en_bd ho ht (l + 1) (by omega)
    rw [f248_legAt_h2, sLaF]
    by_cases hq : sEn S t (l + 1) < k
    · rw [if_pos hq]
      simp (disch := omega) only [let_eq, mjBp_some, mjBd_some, n_0, n_1, n_2, n_3, n_4, n_5, n_6, n_7, n_8, n_9, n_10, n_11, n_12, n_13, n_16, n_20, n_21, n_22, n_23, n_30, n_31, n_32, n_40, n_41, n_42, n_43, n_45, n_48, n_50, n_51, n_52, n_57, n_59, n_60, n_61, n_62, n_63, n_72, n_97, n_99, n_100, n_108, n_120, n_122, n_123, n_125, n_127, n_180, n_255, n_400, n_700, n_999, n_9999, n_2000000, n_2147483647, i3_add, i3_sub, i3_mul, i3_neg, i3_div, max_i3, min_i3, i6_add, i6_sub, i6_mul, i6_neg, c_lt_t, c_lt_f, c_ge_t, c_ge_f, c_gt_t, c_gt_f, c_le_t, c_le_f, c_eq_t, c_eq_f, c_ne_t, c_ne_f, in_t, i3_ofNat, ↓reduceIte, or_true, true_or, or_false, false_or, and_true, true_and, and_false, false_and, decide_true, decide_false, Bool.false_eq_true, not_true_eq_false, not_false_eq_true, Bool.true_and, Bool.false_and, Bool.and_true, Bool.and_false, Bool.true_or, Bool.false_or, Bool.or_true, Bool.or_false, e3_t, e3_f, sw_t, sw_f, sj_t, sj_f, i36, lg6_lt, lg6_eq, lg6_gt, Int.add_sub_cancel, l_0, l_1, l_2, l_3, l_4, l_5, l_10, l_9999, ix_nat, m_td h ho ht, m245 h]
      exact ih
    · rw [if_neg hq]
      simp (disch := omega) only [let_eq, mjBp_some, mjBd_some, n_0, n_1, n_2, n_3, n_4, n_5, n_6, n_7, n_8, n_9, n_10, n_11, n_12, n_13, n_16, n_20, n_21, n_22, n_23, n_30, n_31, n_32, n_40, n_41, n_42, n_43, n_45, n_48, n_50, n_51, n_52, n_57, n_59, n_60, n_61, n_62, n_63, n_72, n_97, n_99, n_100, n_108, n_120, n_122, n_123, n_125, n_127, n_180, n_255, n_400, n_700, n_999, n_9999, n_2000000, n_2147483647, i3_add, i3_sub, i3_mul, i3_neg, i3_div, max_i3, min_i3, i6_add, i6_sub, i6_mul, i6_neg, c_lt_t, c_lt_f, c_ge_t, c_ge_f, c_gt_t, c_gt_f, c_le_t, c_le_f, c_eq_t, c_eq_f, c_ne_t, c_ne_f, in_t, i3_ofNat, ↓reduceIte, or_true, true_or, or_false, false_or, and_true, true_and, and_false, false_and, decide_true, decide_false, Bool.false_eq_true, not_true_eq_false, not_false_eq_true, Bool.true_and, Bool.false_and, Bool.and_true, Bool.and_false, Bool.true_or, Bool.false_or, Bool.or_true, Bool.or_false, e3_t, e3_f, sw_t, sw_f, sj_t, sj_f, i36, lg6_lt, lg6_eq, lg6_gt, Int.add_sub_cancel, l_0, l_1, l_2, l_3, l_4, l_5, l_10, l_9999, ix_nat, m_td h ho ht, m245 h]
theorem m248 (h : mRep Z S) (ho : okS S) {t : Nat} (ht : t < sT S) {k : Int} (hk : -2147483648 ≤ k ∧ k ≤ 2147483647) : f248_legAt (i3 t) (i3 k) Z = some (i3 (sLa S t k : Int)) := by
  have o1 := ok_sc ho
  have o2 := ok_tm ho ht
  exact m248h h ho ht hk (sTd S t - 1) 0 mjF (by omega) (by unfold mjF; omega)
theorem m249 (h : mRep Z S) (ho : okS S) {t : Nat} (ht : t < sT S) {k : Int} (hk : -2147400000 ≤ k ∧ k ≤ 2147483647) : f249_placeOf (i3 t) (i3 k) Z = some (i3 (sPl S t k)) := by
  have o1 := ok_sc ho
  have o2 := ok_tm ho ht
  have o4 := (la_spec S t k).1
  unfold f249_placeOf
  by_cases h0 : sTd S t = 0
  · rw [pl_zero (Or.inl h0)]
    simp (disch := omega) only [let_eq, mjBp_some, mjBd_some, n_0, n_1, n_2, n_3, n_4, n_5, n_6, n_7, n_8, n_9, n_10, n_11, n_12, n_13, n_16, n_20, n_21, n_22, n_23, n_30, n_31, n_32, n_40, n_41, n_42, n_43, n_45, n_48, n_50, n_51, n_52, n_57, n_59, n_60, n_61, n_62, n_63, n_72, n_97, n_99, n_100, n_108, n_120, n_122, n_123, n_125, n_127, n_180, n_255, n_400, n_700, n_999, n_9999, n_2000000, n_2147483647, i3_add, i3_sub, i3_mul, i3_neg, i3_div, max_i3, min_i3, i6_add, i6_sub, i6_mul, i6_neg, c_lt_t, c_lt_f, c_ge_t, c_ge_f, c_gt_t, c_gt_f, c_le_t, c_le_f, c_eq_t, c_eq_f, c_ne_t, c_ne_f, in_t, i3_ofNat, ↓reduceIte, or_true, true_or, or_false, false_or, and_true, true_and, and_false, false_and, decide_true, decide_false, Bool.false_eq_true, not_true_eq_false, not_false_eq_true, Bool.true_and, Bool.false_and, Bool.and_true, Bool.and_false, Bool.true_or, Bool.false_or, Bool.or_true, Bool.or_false, e3_t, e3_f, sw_t, sw_f, sj_t, sj_f, i36, lg6_lt, lg6_eq, lg6_gt, Int.add_sub_cancel, l_0, l_1, l_2, l_3, l_4, l_5, l_10, l_9999, ix_nat, m_td h ho ht]
  · by_cases h1 : k ≤ 0
    · rw [pl_zero (Or.inr h1)]
      simp (disch := omega) only [let_eq, mjBp_some, mjBd_some, n_0, n_1, n_2, n_3, n_4, n_5, n_6, n_7, n_8, n_9, n_10, n_11, n_12, n_13, n_16, n_20, n_21, n_22, n_23, n_30, n_31, n_32, n_40, n_41, n_42, n_43, n_45, n_48, n_50, n_51, n_52, n_57, n_59, n_60, n_61, n_62, n_63, n_72, n_97, n_99, n_100, n_108, n_120, n_122, n_123, n_125, n_127, n_180, n_255, n_400, n_700, n_999, n_9999, n_2000000, n_2147483647, i3_add, i3_sub, i3_mul, i3_neg, i3_div, max_i3, min_i3, i6_add, i6_sub, i6_mul, i6_neg, c_lt_t, c_lt_f, c_ge_t, c_ge_f, c_gt_t, c_gt_f, c_le_t, c_le_f, c_eq_t, c_eq_f, c_ne_t, c_ne_f, in_t, i3_ofNat, ↓reduceIte, or_true, true_or, or_false, false_or, and_true, true_and, and_false, false_and, decide_true, decide_false, Bool.false_eq_true, not_true_eq_false, not_false_eq_true, Bool.true_and, Bool.false_and, Bool.and_true, Bool.and_false, Bool.true_or, Bool.false_or, Bool.or_true, Bool.or_false, e3_t, e3_f, sw_t, sw_f, sj_t, sj_f, i36, lg6_lt, lg6_eq, lg6_gt, Int.add_sub_cancel, l_0, l_1, l_2, l_3, l_4, l_5, l_10, l_9999, ix_nat, m_td h ho ht]
    · have b2 := ok_leg ho ht (l := sLa S t k) (by omega)
      have b3 := ps_step ho ht (l := sLa S t k) (by omega)
      have b4 := ps_bd ho ht (sLa S t k) (by omega)
      have b5 := en_bd ho ht (sLa S t k) (by omega)
      have e0 : sPl S t k = if sTn S t (sLa S t k) ≤ k - sEn S t (sLa S t k) then sPs S t (sLa S t k + 1) else sPs S t (sLa S t k) + (k - sEn S t (sLa S t k)) * (sPs S t (sLa S t k + 1) - sPs S t (sLa S t k)) / sTn S t (sLa S t k) := by
        rw [sPl, if_neg (by omega)]
      rw [e0]
      by_cases h2 : sTn S t (sLa S t k) ≤ k - sEn S t (sLa S t k)
      · rw [if_pos h2]
        simp (disch := omega) only [let_eq, mjBp_some, mjBd_some, n_0, n_1, n_2, n_3, n_4, n_5, n_6, n_7, n_8, n_9, n_10, n_11, n_12, n_13, n_16, n_20, n_21, n_22, n_23, n_30, n_31, n_32, n_40, n_41, n_42, n_43, n_45, n_48, n_50, n_51, n_52, n_57, n_59, n_60, n_61, n_62, n_63, n_72, n_97, n_99, n_100, n_108, n_120, n_122, n_123, n_125, n_127, n_180, n_255, n_400, n_700, n_999, n_9999, n_2000000, n_2147483647, i3_add, i3_sub, i3_mul, i3_neg, i3_div, max_i3, min_i3, i6_add, i6_sub, i6_mul, i6_neg, c_lt_t, c_lt_f, c_ge_t, c_ge_f, c_gt_t, c_gt_f, c_le_t, c_le_f, c_eq_t, c_eq_f, c_ne_t, c_ne_f, in_t, i3_ofNat, ↓reduceIte, or_true, true_or, or_false, false_or, and_true, true_and, and_false, false_and, decide_true, decide_false, Bool.false_eq_true, not_true_eq_false, not_false_eq_true, Bool.true_and, Bool.false_and, Bool.and_true, Bool.and_false, Bool.true_or, Bool.false_or, Bool.or_true, Bool.or_false, e3_t, e3_f, sw_t, sw_f, sj_t, sj_f, i36, lg6_lt, lg6_eq, lg6_gt, Int.add_sub_cancel, l_0, l_1, l_2, l_3, l_4, l_5, l_10, l_9999, ix_nat, m_td h ho ht, m248 h ho ht, m245p h, m244p h, m244 h, m242 h]
      · rw [if_neg h2]
        have h3 : 0 ≤ k - sEn S t (sLa S t k) := by
          have g2 := (la_spec S t k).2.1
          rcases Nat.eq_zero_or_pos (sLa S t k) with q | q
          · rw [q, sEn]; omega
          · have := g2 (sLa S t k - 1) (by omega)
            rw [show sLa S t k - 1 + 1 = sLa S t k by omega] at this
            omega
        have b6 := prod_bd (d := k - sEn S t (sLa S t k)) (w := sPs S t (sLa S t k + 1) - sPs S t (sLa S t k)) (D := 999) (W := 4400) (by omega)
        simp (disch := omega) only [let_eq, mjBp_some, mjBd_some, n_0, n_1, n_2, n_3, n_4, n_5, n_6, n_7, n_8, n_9, n_10, n_11, n_12, n_13, n_16, n_20, n_21, n_22, n_23, n_30, n_31, n_32, n_40, n_41, n_42, n_43, n_45, n_48, n_50, n_51, n_52, n_57, n_59, n_60, n_61, n_62, n_63, n_72, n_97, n_99, n_100, n_108, n_120, n_122, n_123, n_125, n_127, n_180, n_255, n_400, n_700, n_999, n_9999, n_2000000, n_2147483647, i3_add, i3_sub, i3_mul, i3_neg, i3_div, max_i3, min_i3, i6_add, i6_sub, i6_mul, i6_neg, c_lt_t, c_lt_f, c_ge_t, c_ge_f, c_gt_t, c_gt_f, c_le_t, c_le_f, c_eq_t, c_eq_f, c_ne_t, c_ne_f, in_t, i3_ofNat, ↓reduceIte, or_true, true_or, or_false, false_or, and_true, true_and, and_false, false_and, decide_true, decide_false, Bool.false_eq_true, not_true_eq_false, not_false_eq_true, Bool.true_and, Bool.false_and, Bool.and_true, Bool.and_false, Bool.true_or, Bool.false_or, Bool.or_true, Bool.or_false, e3_t, e3_f, sw_t, sw_f, sj_t, sj_f, i36, lg6_lt, lg6_eq, lg6_gt, Int.add_sub_cancel, l_0, l_1, l_2, l_3, l_4, l_5, l_10, l_9999, ix_nat, m_td h ho ht, m248 h ho ht, m245p h, m244p h, m244 h, m242 h, i3_inj]
end PL
