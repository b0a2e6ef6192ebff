/-! WHO COMES WHEN: the class reckons it, the model looks for it -/
def sArF (S : mjS) (t : Nat) (p : Int) : Nat → Nat → Int
  | 0, _ => -2
  | f + 1, l => if p ≤ sPs S t (l + 1) then sEn S t l + ((p - sPs S t l) * sTn S t l + (sPs S t (l + 1) - sPs S t l) - 1) / (sPs S t (l + 1) - sPs S t l) else sArF S t p f (l + 1)
def sAr (S : mjS) (t : Nat) (p : Int) : Int := if p ≤ 0 then 0 else sArF S t p (sTd S t) 0
theorem ceil_spec {x w T : Int} (h0 : 0 < x) (h1 : x ≤ w) (hT : 0 < T) : 1 ≤ (x * T + w - 1) / w ∧ (x * T + w - 1) / w ≤ T ∧ x * T ≤ (x * T + w - 1) / w * w ∧ ((x * T + w - 1) / w - 1) * w < x * T := by
  have hw : 0 < w := by omega
  have a1 := Int.ediv_mul_le (x * T + w - 1) (b := w) (by omega)
  have a2 := Int.lt_ediv_add_one_mul_self (x * T + w - 1) hw
  have a3 : 0 < x * T := Int.mul_pos h0 hT
  have a4 : x * T ≤ w * T := Int.mul_le_mul_of_nonneg_right h1 (by omega)
  generalize (x * T + w - 1) / w = d at a1 a2 ⊢
  rw [Int.add_mul, Int.one_mul] at a2
  have e1 : (d - 1) * w = d * w - w := by rw [Int.sub_mul, Int.one_mul]
  refine ⟨?_, ?_, by omega, by rw [e1]; omega⟩
  · have : 0 < d * w := by omega
    have := Int.pos_of_mul_pos_left this (by omega)
    omega
  · have h2 : (d - 1) * w < T * w := by rw [e1, Int.mul_comm T w]; omega
    have := Int.lt_of_mul_lt_mul_right h2 (by omega)
    omega
theorem arF_spec {S : mjS} (h : okS S) {t : Nat} (ht : t < sT S) {p : Int} : ∀ f l, l + f = sTd S t → sPs S t l < p → (∃ m, m < sTd S t ∧ sPs S t m < p ∧ p ≤ sPs S t (m + 1) ∧ sArF S t p f l = sEn S t m + ((p - sPs S t m) * sTn S t m + (sPs S t (m + 1) - sPs S t m) - 1) / (sPs S t (m + 1) - sPs S t m)) ∨ (sArF S t p f l = -2 ∧ sPs S t (sTd S t) < p)
  | 0, l, hf, hp => by
    obtain rfl : l = sTd S t := by omega
    exact Or.inr ⟨rfl, hp⟩
  | f + 1, l, hf, hp => by
    rw [sArF]
    by_cases hq : p ≤ sPs S t (l + 1)
    · rw [if_pos hq]
      exact Or.inl ⟨l, by omega, hp, hq, rfl⟩
    · rw [if_neg hq]
      exact arF_spec h ht f (l + 1) (by omega) (by omega)
theorem pl_le {S : mjS} (h : okS S) {t : Nat} (ht : t < sT S) {l : Nat} (hl : l ≤ sTd S t) {k : Int} (hk : k ≤ sEn S t l) : sPl S t k ≤ sPs S t l := by
  have b0 := ps_bd h ht l hl
  rcases pl_cases h ht k with q | ⟨m, hm, q0, q1, q2⟩ | ⟨_, _, q1⟩
  · rw [pl_zero q]; omega
  · have hml : m < l := by
      rcases Nat.lt_or_ge m l with q | q
      · exact q
      · have := en_mono h ht (l := l) (m - l) (by omega)
        rw [show l + (m - l) = m by omega] at this
        omega
    have b1 := ps_step h ht hm
    have b2 := ok_leg h ht hm
    have b3 := ps_mono h ht (l := m + 1) (l - (m + 1)) (by omega)
    rw [show m + 1 + (l - (m + 1)) = l by omega] at b3
    rw [pl_leg h ht hm q0 q1 q2]
    rw [sEn] at q2
    have := frac_bd (d := k - sEn S t m) (w := sPs S t (m + 1) - sPs S t m) (T := sTn S t m) (by omega) (by omega) (by omega) (by omega)
    omega
  · have := en_mono h ht (l := l) (sTd S t - l) (by omega)
    rw [show l + (sTd S t - l) = sTd S t by omega] at this
    omega
theorem pl_top {S : mjS} (h : okS S) {t : Nat} (ht : t < sT S) (k : Int) : sPl S t k ≤ sPs S t (sTd S t) := by
  by_cases q : k ≤ sEn S t (sTd S t)
  · exact pl_le h ht (Nat.le_refl _) q
  · by_cases h0 : sTd S t = 0
    · rw [pl_zero (Or.inl h0), h0, sPs]; omega
    · rw [pl_end h ht (by omega) (by omega)]; omega
/-- the first tenth at the place or behind it -/
theorem ar_spec {S : mjS} (h : okS S) {t : Nat} (ht : t < sT S) (p : Int) : (0 ≤ sAr S t p ∧ sAr S t p ≤ 5994 ∧ (∀ k : Int, 0 ≤ k → k < sAr S t p → sPl S t k < p) ∧ p ≤ sPl S t (sAr S t p)) ∨ (sAr S t p = -2 ∧ ∀ k, sPl S t k < p) := by
  unfold sAr
  by_cases hp : p ≤ 0
  · rw [if_pos hp]
    exact Or.inl ⟨by omega, by omega, fun k h1 h2 => by omega, by rw [pl_zero (Or.inr (Int.le_refl 0))]; omega⟩
  · rw [if_neg hp]
    rcases arF_spec h ht (p := p) (sTd S t) 0 (by omega) (by rw [sPs]; omega) with ⟨l, hl, h1, h2, e⟩ | ⟨e, h1⟩
    · refine Or.inl ?_
      have b1 := ps_step h ht hl
      have b2 := ok_leg h ht hl
      have b3 := en_bd h ht l (by omega)
      have b4 := en_bd h ht (l + 1) (by omega)
      have b5 := ok_tm h ht
      have b6 := ok_sc h
      obtain ⟨c1, c2, c3, c4⟩ := ceil_spec (x := p - sPs S t l) (w := sPs S t (l + 1) - sPs S t l) (T := sTn S t l) (by omega) (by omega) (by omega)
      rw [e]
      generalize ((p - sPs S t l) * sTn S t l + (sPs S t (l + 1) - sPs S t l) - 1) / (sPs S t (l + 1) - sPs S t l) = d at c1 c2 c3 c4 ⊢
      rw [sEn] at b4
      refine ⟨by omega, by omega, fun k hk0 hk1 => ?_, ?_⟩
      · by_cases q : k ≤ sEn S t l
        · have := pl_le h ht (l := l) (by omega) q
          omega
        · rw [pl_leg h ht hl (by omega) (by omega) (by rw [sEn]; omega)]
          have e2 : (k - sEn S t l) * (sPs S t (l + 1) - sPs S t l) ≤ (d - 1) * (sPs S t (l + 1) - sPs S t l) := Int.mul_le_mul_of_nonneg_right (by omega) (by omega)
          have := (Int.ediv_lt_iff_lt_mul (a := (k - sEn S t l) * (sPs S t (l + 1) - sPs S t l)) (b := p - sPs S t l) (c := sTn S t l) (by omega)).mpr (by omega)
          omega
      · rw [pl_leg h ht hl (by omega) (by omega) (by rw [sEn]; omega), show sEn S t l + d - sEn S t l = d by omega]
        have := (Int.le_ediv_iff_mul_le (a := p - sPs S t l) (b := d * (sPs S t (l + 1) - sPs S t l)) (c := sTn S t l) (by omega)).mpr (by omega)
        omega
    · refine Or.inr ⟨e, fun k => ?_⟩
      have := pl_top h ht k
      omega
theorem ar_bd {S : mjS} (h : okS S) {t : Nat} (ht : t < sT S) (p : Int) : -2 ≤ sAr S t p ∧ sAr S t p ≤ 5994 ∧ sAr S t p ≠ -1 := by
  rcases ar_spec h ht p with q | q <;> omega
section CM
variable {Z Zm : mjZt} {b : Nat} {S : mjS}
theorem e104h (h : cBk Z b S) (hd : cDr Z b S) (ho : okS S) {t : Nat} (ht : t < sT S) {p : Int} (hp : p ≤ 2147483647) : ∀ f l n, l + f = sTd S t → sPs S t l < p → f < n → f104_arrival_h8 n (tmB b t) (i3 p) (i3 ((l : Int) + 1)) Z = some (i3 (sArF S t p f l))
  | f, l, 0, _, _, hn => by omega
  | 0, l, n + 1, hf, _, _ => by
    have o1 := ok_sc ho
    have o2 := ok_tm ho ht
    rw [f104_arrival_h8, sArF]
    simp (disch := omega) only [let_eq, mjBp_some, mjBd_some, n_0, n_1, n_2, n_3, n_4, n_5, n_6, n_7, n_8, n_9, n_10, n_11, n_12, n_13, n_16, n_20, n_21, n_22, n_23, n_30, n_31, n_32, n_40, n_41, n_42, n_43, n_45, n_48, n_50, n_51, n_52, n_57, n_59, n_60, n_61, n_62, n_63, n_72, n_97, n_99, n_100, n_108, n_120, n_122, n_123, n_125, n_127, n_180, n_255, n_400, n_700, n_999, n_9999, n_2000000, n_2147483647, i3_add, i3_sub, i3_mul, i3_neg, i3_div, max_i3, min_i3, i6_add, i6_sub, i6_mul, i6_neg, c_lt_t, c_lt_f, c_ge_t, c_ge_f, c_gt_t, c_gt_f, c_le_t, c_le_f, c_eq_t, c_eq_f, c_ne_t, c_ne_f, in_t, i3_ofNat, ↓reduceIte, or_true, true_or, or_false, false_or, and_true, true_and, and_false, false_and, decide_true, decide_false, Bool.false_eq_true, not_true_eq_false, not_false_eq_true, Bool.true_and, Bool.false_and, Bool.and_true, Bool.and_false, Bool.true_or, Bool.false_or, Bool.or_true, Bool.or_false, e3_t, e3_f, sw_t, sw_f, sj_t, sj_f, i36, lg6_lt, lg6_eq, lg6_gt, Int.add_sub_cancel, l_0, l_1, l_2, l_3, l_4, l_5, l_10, l_9999, is_tm (b_b h), b_td h ht]
  | f + 1, l, n + 1, hf, hl, hn => by
    have o1 := ok_sc ho
    have o2 := ok_tm ho ht
    have b1 := ps_step ho ht (l := l) (by omega)
    have b2 := ps_bd ho ht l (by omega)
    have b3 := ok_leg ho ht (l := l) (by omega)
    rw [f104_arrival_h8, sArF]
    by_cases hq : p ≤ sPs S t (l + 1)
    · have b6 := prod_bd (d := p - sPs S t l) (w := sTn S t l) (D := 4400) (W := 999) (by omega)
      rw [if_pos hq]
      simp (disch := omega) only [let_eq, mjBp_some, mjBd_some, n_0, n_1, n_2, n_3, n_4, n_5, n_6, n_7, n_8, n_9, n_10, n_11, n_12, n_13, n_16, n_20, n_21, n_22, n_23, n_30, n_31, n_32, n_40, n_41, n_42, n_43, n_45, n_48, n_50, n_51, n_52, n_57, n_59, n_60, n_61, n_62, n_63, n_72, n_97, n_99, n_100, n_108, n_120, n_122, n_123, n_125, n_127, n_180, n_255, n_400, n_700, n_999, n_9999, n_2000000, n_2147483647, i3_add, i3_sub, i3_mul, i3_neg, i3_div, max_i3, min_i3, i6_add, i6_sub, i6_mul, i6_neg, c_lt_t, c_lt_f, c_ge_t, c_ge_f, c_gt_t, c_gt_f, c_le_t, c_le_f, c_eq_t, c_eq_f, c_ne_t, c_ne_f, in_t, i3_ofNat, ↓reduceIte, or_true, true_or, or_false, false_or, and_true, true_and, and_false, false_and, decide_true, decide_false, Bool.false_eq_true, not_true_eq_false, not_false_eq_true, Bool.true_and, Bool.false_and, Bool.and_true, Bool.and_false, Bool.true_or, Bool.false_or, Bool.or_true, Bool.or_false, e3_t, e3_f, sw_t, sw_f, sj_t, sj_f, i36, lg6_lt, lg6_eq, lg6_gt, Int.add_sub_cancel, l_0, l_1, l_2, l_3, l_4, l_5, l_10, l_9999, is_tm (b_b h), b_td h ht, ePs h hd ho ht, ePs1 h hd ho ht, eEn h hd ho ht, eTn1 h ho ht]
    · have ih := e104h h hd ho ht hp f (l + 1) n (by omega) (by omega) (by omega)
      rw [if_neg hq]
      simp (disch := omega) only [let_eq, mjBp_some, mjBd_some, n_0, n_1, n_2, n_3, n_4, n_5, n_6, n_7, n_8, n_9, n_10, n_11, n_12, n_13, n_16, n_20, n_21, n_22, n_23, n_30, n_31, n_32, n_40, n_41, n_42, n_43, n_45, n_48, n_50, n_51, n_52, n_57, n_59, n_60, n_61, n_62, n_63, n_72, n_97, n_99, n_100, n_108, n_120, n_122, n_123, n_125, n_127, n_180, n_255, n_400, n_700, n_999, n_9999, n_2000000, n_2147483647, i3_add, i3_sub, i3_mul, i3_neg, i3_div, max_i3, min_i3, i6_add, i6_sub, i6_mul, i6_neg, c_lt_t, c_lt_f, c_ge_t, c_ge_f, c_gt_t, c_gt_f, c_le_t, c_le_f, c_eq_t, c_eq_f, c_ne_t, c_ne_f, in_t, i3_ofNat, ↓reduceIte, or_true, true_or, or_false, false_or, and_true, true_and, and_false, false_and, decide_true, decide_false, Bool.false_eq_true, not_true_eq_false, not_false_eq_true, Bool.true_and, Bool.false_and, Bool.and_true, Bool.and_false, Bool.true_or, Bool.false_or, Bool.or_true, Bool.or_false, e3_t, e3_f, sw_t, sw_f, sj_t, sj_f, i36, lg6_lt, lg6_eq, lg6_gt, Int.add_sub_cancel, l_0, l_1, l_2, l_3, l_4, l_5, l_10, l_9999, is_tm (b_b h), b_td h ht, ePs h hd ho ht, ePs1 h hd ho ht, eEn h hd ho ht, eTn1 h ho ht]
      exact ih
theorem e104 (h : cBk Z b S) (hd : cDr Z b S) (ho : okS S) {t : Nat} (ht : t < sT S) {p : Int} (hp : -2147483648 ≤ p ∧ p ≤ 2147483647) : f104_arrival (tmB b t) (i3 p) Z = some (i3 (sAr S t p)) := by
  have o1 := ok_sc ho
  have o2 := ok_tm ho ht
  unfold f104_arrival sAr
  by_cases h0 : p ≤ 0
  · rw [if_pos h0]
    simp (disch := omega) only [let_eq, mjBp_some, mjBd_some, n_0, n_1, n_2, n_3, n_4, n_5, n_6, n_7, n_8, n_9, n_10, n_11, n_12, n_13, n_16, n_20, n_21, n_22, n_23, n_30, n_31, n_32, n_40, n_41, n_42, n_43, n_45, n_48, n_50, n_51, n_52, n_57, n_59, n_60, n_61, n_62, n_63, n_72, n_97, n_99, n_100, n_108, n_120, n_122, n_123, n_125, n_127, n_180, n_255, n_400, n_700, n_999, n_9999, n_2000000, n_2147483647, i3_add, i3_sub, i3_mul, i3_neg, i3_div, max_i3, min_i3, i6_add, i6_sub, i6_mul, i6_neg, c_lt_t, c_lt_f, c_ge_t, c_ge_f, c_gt_t, c_gt_f, c_le_t, c_le_f, c_eq_t, c_eq_f, c_ne_t, c_ne_f, in_t, i3_ofNat, ↓reduceIte, or_true, true_or, or_false, false_or, and_true, true_and, and_false, false_and, decide_true, decide_false, Bool.false_eq_true, not_true_eq_false, not_false_eq_true, Bool.true_and, Bool.false_and, Bool.and_true, Bool.and_false, Bool.true_or, Bool.false_or, Bool.or_true, Bool.or_false, e3_t, e3_f, sw_t, sw_f, sj_t, sj_f, i36, lg6_lt, lg6_eq, lg6_gt, Int.add_sub_cancel, l_0, l_1, l_2, l_3, l_4, l_5, l_10, l_9999]
  · rw [if_neg h0]
    simp (disch := omega) only [let_eq, mjBp_some, mjBd_some, n_0, n_1, n_2, n_3, n_4, n_5, n_6, n_7, n_8, n_9, n_10, n_11, n_12, n_13, n_16, n_20, n_21, n_22, n_23, n_30, n_31, n_32, n_40, n_41, n_42, n_43, n_45, n_48, n_50, n_51, n_52, n_57, n_59, n_60, n_61, n_62, n_63, n_72, n_97, n_99, n_100, n_108, n_120, n_122, n_123, n_125, n_127, n_180, n_255, n_400, n_700, n_999, n_9999, n_2000000, n_2147483647, i3_add, i3_sub, i3_mul, i3_neg, i3_div, max_i3, min_i3, i6_add, i6_sub, i6_mul, i6_neg, c_lt_t, c_lt_f, c_ge_t, c_ge_f, c_gt_t, c_gt_f, c_le_t, c_le_f, c_eq_t, c_eq_f, c_ne_t, c_ne_f, in_t, i3_ofNat, ↓reduceIte, or_true, true_or, or_false, false_or, and_true, true_and, and_false, false_and, decide_true, decide_false, Bool.false_eq_true, not_true_eq_false, not_false_eq_true, Bool.true_and, Bool.false_and, Bool.and_true, Bool.and_false, Bool.true_or, Bool.false_or, Bool.or_true, Bool.or_false, e3_t, e3_f, sw_t, sw_f, sj_t, sj_f, i36, lg6_lt, lg6_eq, lg6_gt, Int.add_sub_cancel, l_0, l_1, l_2, l_3, l_4, l_5, l_10, l_9999]
    exact e104h h hd ho ht hp.2 (sTd S t) 0 mjF (by omega) (by rw [sPs]; omega) (by unfold mjF; omega)
theorem e104n (h : cBk Z b S) {p : Int} (hp : -2147483648 ≤ p ∧ p ≤ 2147483647) : f104_arrival (b + 12) (i3 p) Z = some (i3 (if p ≤ 0 then 0 else -2)) := by
  have e6 : Z.1 (b + 12) 6 = i3 0 := by rw [b_no h (j := 0) (by omega)]; rfl
  unfold f104_arrival
  by_cases h0 : p ≤ 0
  · rw [if_pos h0]
    simp (disch := omega) only [let_eq, mjBp_some, mjBd_some, n_0, n_1, n_2, n_3, n_4, n_5, n_6, n_7, n_8, n_9, n_10, n_11, n_12, n_13, n_16, n_20, n_21, n_22, n_23, n_30, n_31, n_32, n_40, n_41, n_42, n_43, n_45, n_48, n_50, n_51, n_52, n_57, n_59, n_60, n_61, n_62, n_63, n_72, n_97, n_99, n_100, n_108, n_120, n_122, n_123, n_125, n_127, n_180, n_255, n_400, n_700, n_999, n_9999, n_2000000, n_2147483647, i3_add, i3_sub, i3_mul, i3_neg, i3_div, max_i3, min_i3, i6_add, i6_sub, i6_mul, i6_neg, c_lt_t, c_lt_f, c_ge_t, c_ge_f, c_gt_t, c_gt_f, c_le_t, c_le_f, c_eq_t, c_eq_f, c_ne_t, c_ne_f, in_t, i3_ofNat, ↓reduceIte, or_true, true_or, or_false, false_or, and_true, true_and, and_false, false_and, decide_true, decide_false, Bool.false_eq_true, not_true_eq_false, not_false_eq_true, Bool.true_and, Bool.false_and, Bool.and_true, Bool.and_false, Bool.true_or, Bool.false_or, Bool.or_true, Bool.or_false, e3_t, e3_f, sw_t, sw_f, sj_t, sj_f, i36, lg6_lt, lg6_eq, lg6_gt, Int.add_sub_cancel, l_0, l_1, l_2, l_3, l_4, l_5, l_10, l_9999]
  · rw [if_neg h0, show mjF = 19999 + 1 from rfl, f104_arrival_h8]
    simp (disch := omega) only [let_eq, mjBp_some, mjBd_some, n_0, n_1, n_2, n_3, n_4, n_5, n_6, n_7, n_8, n_9, n_10, n_11, n_12, n_13, n_16, n_20, n_21, n_22, n_23, n_30, n_31, n_32, n_40, n_41, n_42, n_43, n_45, n_48, n_50, n_51, n_52, n_57, n_59, n_60, n_61, n_62, n_63, n_72, n_97, n_99, n_100, n_108, n_120, n_122, n_123, n_125, n_127, n_180, n_255, n_400, n_700, n_999, n_9999, n_2000000, n_2147483647, i3_add, i3_sub, i3_mul, i3_neg, i3_div, max_i3, min_i3, i6_add, i6_sub, i6_mul, i6_neg, c_lt_t, c_lt_f, c_ge_t, c_ge_f, c_gt_t, c_gt_f, c_le_t, c_le_f, c_eq_t, c_eq_f, c_ne_t, c_ne_f, in_t, i3_ofNat, ↓reduceIte, or_true, true_or, or_false, false_or, and_true, true_and, and_false, false_and, decide_true, decide_false, Bool.false_eq_true, not_true_eq_false, not_false_eq_true, Bool.true_and, Bool.false_and, Bool.and_true, Bool.and_false, Bool.true_or, Bool.false_or, Bool.or_true, Bool.or_false, e3_t, e3_f, sw_t, sw_f, sj_t, sj_f, i36, lg6_lt, lg6_eq, lg6_gt, Int.add_sub_cancel, l_0, l_1, l_2, l_3, l_4, l_5, l_10, l_9999, is_b12 (b_b h), e6]
theorem m257h (h : mRep Z S) (ho : okS S) {t : Nat} (ht : t < sT S) {p : Int} (hp : -2147483648 ≤ p ∧ p ≤ 2147483647) {K : Int} (hK : 0 ≤ K ∧ K ≤ 9999) (h1 : ∀ k : Int, 0 ≤ k → k < K → sPl S t k < p) (h2 : p ≤ sPl S t K) : ∀ (f : Nat) (k : Int) n, 0 ≤ k → k + f = K → f < n → f257_comesTo_h2 n (i3 t) (i3 p) (i3 k) Z = some (i3 K)
  | f, k, 0, _, _, hn => by omega
  | 0, k, n + 1, hk, hf, _ => by
    obtain rfl : k = K := by omega
    have b1 := pl_bd ho ht k
    rw [f257_comesTo_h2]
    simp (disch := omega) only [let_eq, mjBp_some, mjBd_some, n_0, n_1, n_2, n_3, n_4, n_5, n_6, n_7, n_8, n_9, n_10, n_11, n_12, n_13, n_16, n_20, n_21, n_22, n_23, n_30, n_31, n_32, n_40, n_41, n_42, n_43, n_45, n_48, n_50, n_51, n_52, n_57, n_59, n_60, n_61, n_62, n_63, n_72, n_97, n_99, n_100, n_108, n_120, n_122, n_123, n_125, n_127, n_180, n_255, n_400, n_700, n_999, n_9999, n_2000000, n_2147483647, i3_add, i3_sub, i3_mul, i3_neg, i3_div, max_i3, min_i3, i6_add, i6_sub, i6_mul, i6_neg, c_lt_t, c_lt_f, c_ge_t, c_ge_f, c_gt_t, c_gt_f, c_le_t, c_le_f, c_eq_t, c_eq_f, c_ne_t, c_ne_f, in_t, i3_ofNat, ↓reduceIte, or_true, true_or, or_false, false_or, and_true, true_and, and_false, false_and, decide_true, decide_false, Bool.false_eq_true, not_true_eq_false, not_false_eq_true, Bool.true_and, Bool.false_and, Bool.and_true, Bool.and_false, Bool.true_or, Bool.false_or, Bool.or_true, Bool.or_false, e3_t, e3_f, sw_t, sw_f, sj_t, sj_f, i36, lg6_lt, lg6_eq, lg6_gt, Int.add_sub_cancel, l_0, l_1, l_2, l_3, l_4, l_5, l_10, l_9999, m249 h ho ht]
  | f + 1, k, n + 1, hk, hf, hn => by
    have ih := m257h h ho ht hp hK h1 h2 f (k + 1) n (by omega) (by omega) (by omega)
    have b1 := pl_bd ho ht k
    have b2 := h1 k hk (by omega)
    rw [f257_comesTo_h2]
    simp (disch := omega) only [let_eq, mjBp_some, mjBd_some, n_0, n_1, n_2, n_3, n_4, n_5, n_6, n_7, n_8, n_9, n_10, n_11, n_12, n_13, n_16, n_20, n_21, n_22, n_23, n_30, n_31, n_32, n_40, n_41, n_42, n_43, n_45, n_48, n_50, n_51, n_52, n_57, n_59, n_60, n_61, n_62, n_63, n_72, n_97, n_99, n_100, n_108, n_120, n_122, n_123, n_125, n_127, n_180, n_255, n_400, n_700, n_999, n_9999, n_2000000, n_2147483647, i3_add, i3_sub, i3_mul, i3_neg, i3_div, max_i3, min_i3, i6_add, i6_sub, i6_mul, i6_neg, c_lt_t, c_lt_f, c_ge_t, c_ge_f, c_gt_t, c_gt_f, c_le_t, c_le_f, c_eq_t, c_eq_f, c_ne_t, c_ne_f, in_t, i3_ofNat, ↓reduceIte, or_true, true_or, or_false, false_or, and_true, true_and, and_false, false_and, decide_true, decide_false, Bool.false_eq_true, not_true_eq_false, not_false_eq_true, Bool.true_and, Bool.false_and, Bool.and_true, Bool.and_false, Bool.true_or, Bool.false_or, Bool.or_true, Bool.or_false, e3_t, e3_f, sw_t, sw_f, sj_t, sj_f, i36, lg6_lt, lg6_eq, lg6_gt, Int.add_sub_cancel, l_0, l_1, l_2, l_3, l_4, l_5, l_10, l_9999, m249 h ho ht]
    exact ih
theorem m257n (h : mRep Z S) (ho : okS S) {t : Nat} (ht : t < sT S) {p : Int} (hp : -2147483648 ≤ p ∧ p ≤ 2147483647) (h1 : ∀ k : Int, sPl S t k < p) : ∀ (f : Nat) (k : Int) n, 0 ≤ k → k + f = 10000 → f < n → f257_comesTo_h2 n (i3 t) (i3 p) (i3 k) Z = some (i3 (-2))
  | f, k, 0, _, _, hn => by omega
  | 0, k, n + 1, hk, hf, _ => by
    rw [f257_comesTo_h2]
    simp (disch := omega) only [let_eq, mjBp_some, mjBd_some, n_0, n_1, n_2, n_3, n_4, n_5, n_6, n_7, n_8, n_9, n_10, n_11, n_12, n_13, n_16, n_20, n_21, n_22, n_23, n_30, n_31, n_32, n_40, n_41, n_42, n_43, n_45, n_48, n_50, n_51, n_52, n_57, n_59, n_60, n_61, n_62, n_63, n_72, n_97, n_99, n_100, n_108, n_120, n_122, n_123, n_125, n_127, n_180, n_255, n_400, n_700, n_999, n_9999, n_2000000, n_2147483647, i3_add, i3_sub, i3_mul, i3_neg, i3_div, max_i3, min_i3, i6_add, i6_sub, i6_mul, i6_neg, c_lt_t, c_lt_f, c_ge_t, c_ge_f, c_gt_t, c_gt_f, c_le_t, c_le_f, c_eq_t, c_eq_f, c_ne_t, c_ne_f, in_t, i3_ofNat, ↓reduceIte, or_true, true_or, or_false, false_or, and_true, true_and, and_false, false_and, decide_true, decide_false, Bool.false_eq_true, not_true_eq_false, not_false_eq_true, Bool.true_and, Bool.false_and, Bool.and_true, Bool.and_false, Bool.true_or, Bool.false_or, Bool.or_true, Bool.or_false, e3_t, e3_f, sw_t, sw_f, sj_t, sj_f, i36, lg6_lt, lg6_eq, lg6_gt, Int.add_sub_cancel, l_0, l_1, l_2, l_3, l_4, l_5, l_10, l_9999]
  | f + 1, k, n + 1, hk, hf, hn => by
    have ih := m257n h ho ht hp h1 f (k + 1) n (by omega) (by omega) (by omega)
    have b1 := pl_bd ho ht k
    have b2 := h1 k
    rw [f257_comesTo_h2]
    simp (disch := omega) only [let_eq, mjBp_some, mjBd_some, n_0, n_1, n_2, n_3, n_4, n_5, n_6, n_7, n_8, n_9, n_10, n_11, n_12, n_13, n_16, n_20, n_21, n_22, n_23, n_30, n_31, n_32, n_40, n_41, n_42, n_43, n_45, n_48, n_50, n_51, n_52, n_57, n_59, n_60, n_61, n_62, n_63, n_72, n_97, n_99, n_100, n_108, n_120, n_122, n_123, n_125, n_127, n_180, n_255, n_400, n_700, n_999, n_9999, n_2000000, n_2147483647, i3_add, i3_sub, i3_mul, i3_neg, i3_div, max_i3, min_i3, i6_add, i6_sub, i6_mul, i6_neg, c_lt_t, c_lt_f, c_ge_t, c_ge_f, c_gt_t, c_gt_f, c_le_t, c_le_f, c_eq_t, c_eq_f, c_ne_t, c_ne_f, in_t, i3_ofNat, ↓reduceIte, or_true, true_or, or_false, false_or, and_true, true_and, and_false, false_and, decide_true, decide_false, Bool.false_eq_true, not_true_eq_false, not_false_eq_true, Bool.true_and, Bool.false_and, Bool.and_true, Bool.and_false, Bool.true_or, Bool.false_or, Bool.or_true, Bool.or_false, e3_t, e3_f, sw_t, sw_f, sj_t, sj_f, i36, lg6_lt, lg6_eq, lg6_gt, Int.add_sub_cancel, l_0, l_1, l_2, l_3, l_4, l_5, l_10, l_9999, m249 h ho ht]
    exact ih
theorem m257 (h : mRep Z S) (ho : okS S) {t : Nat} (ht : t < sT S) {p : Int} (hp : -2147483648 ≤ p ∧ p ≤ 2147483647) : f257_comesTo (i3 t) (i3 p) Z = some (i3 (sAr S t p)) := by
  unfold f257_comesTo
  rcases ar_spec ho ht p with ⟨h1, h2, h3, h4⟩ | ⟨h1, h2⟩
  · exact m257h h ho ht hp ⟨h1, by omega⟩ h3 h4 (sAr S t p).toNat 0 mjF (by omega) (by omega) (by unfold mjF; omega)
  · rw [h1]
    exact m257n h ho ht hp h2 10000 0 mjF (by omega) (by omega) (by unfold mjF; omega)
theorem q_comes (hb : Z.2.2.1 = b) (h : cBk Z b S) (hd : cDr Z b S) (ho : okS S) (hm : mRep Zm S) (x y : Int32) : ∃ v, f160_comes x y Z = some v ∧ f258_comes x y Zm = some v := by
  have o1 := ok_sc ho
  unfold f160_comes f258_comes
  rw [hb]
  rcases tm_cases S x with ⟨t, rfl, ht⟩ | ⟨t, rfl, ht⟩
  · obtain ⟨k, rfl, hk1, hk2⟩ := i3_ex y
    by_cases q : k < 0
    · refine ⟨i3 (-1), ?_, ?_⟩
      · simp (disch := omega) only [let_eq, mjBp_some, mjBd_some, n_0, n_1, n_2, n_3, n_4, n_5, n_6, n_7, n_8, n_9, n_10, n_11, n_12, n_13, n_16, n_20, n_21, n_22, n_23, n_30, n_31, n_32, n_40, n_41, n_42, n_43, n_45, n_48, n_50, n_51, n_52, n_57, n_59, n_60, n_61, n_62, n_63, n_72, n_97, n_99, n_100, n_108, n_120, n_122, n_123, n_125, n_127, n_180, n_255, n_400, n_700, n_999, n_9999, n_2000000, n_2147483647, i3_add, i3_sub, i3_mul, i3_neg, i3_div, max_i3, min_i3, i6_add, i6_sub, i6_mul, i6_neg, c_lt_t, c_lt_f, c_ge_t, c_ge_f, c_gt_t, c_gt_f, c_le_t, c_le_f, c_eq_t, c_eq_f, c_ne_t, c_ne_f, in_t, i3_ofNat, ↓reduceIte, or_true, true_or, or_false, false_or, and_true, true_and, and_false, false_and, decide_true, decide_false, Bool.false_eq_true, not_true_eq_false, not_false_eq_true, Bool.true_and, Bool.false_and, Bool.and_true, Bool.and_false, Bool.true_or, Bool.false_or, Bool.or_true, Bool.or_false, e3_t, e3_f, sw_t, sw_f, sj_t, sj_f, i36, lg6_lt, lg6_eq, lg6_gt, Int.add_sub_cancel, l_0, l_1, l_2, l_3, l_4, l_5, l_10, l_9999, is_b (b_b h), e7t h ho]
      · simp (disch := omega) only [let_eq, mjBp_some, mjBd_some, n_0, n_1, n_2, n_3, n_4, n_5, n_6, n_7, n_8, n_9, n_10, n_11, n_12, n_13, n_16, n_20, n_21, n_22, n_23, n_30, n_31, n_32, n_40, n_41, n_42, n_43, n_45, n_48, n_50, n_51, n_52, n_57, n_59, n_60, n_61, n_62, n_63, n_72, n_97, n_99, n_100, n_108, n_120, n_122, n_123, n_125, n_127, n_180, n_255, n_400, n_700, n_999, n_9999, n_2000000, n_2147483647, i3_add, i3_sub, i3_mul, i3_neg, i3_div, max_i3, min_i3, i6_add, i6_sub, i6_mul, i6_neg, c_lt_t, c_lt_f, c_ge_t, c_ge_f, c_gt_t, c_gt_f, c_le_t, c_le_f, c_eq_t, c_eq_f, c_ne_t, c_ne_f, in_t, i3_ofNat, ↓reduceIte, or_true, true_or, or_false, false_or, and_true, true_and, and_false, false_and, decide_true, decide_false, Bool.false_eq_true, not_true_eq_false, not_false_eq_true, Bool.true_and, Bool.false_and, Bool.and_true, Bool.and_false, Bool.true_or, Bool.false_or, Bool.or_true, Bool.or_false, e3_t, e3_f, sw_t, sw_f, sj_t, sj_f, i36, lg6_lt, lg6_eq, lg6_gt, Int.add_sub_cancel, l_0, l_1, l_2, l_3, l_4, l_5, l_10, l_9999, m240t hm ho]
    · refine ⟨i3 (sAr S t k), ?_, ?_⟩
      · simp (disch := omega) only [let_eq, mjBp_some, mjBd_some, n_0, n_1, n_2, n_3, n_4, n_5, n_6, n_7, n_8, n_9, n_10, n_11, n_12, n_13, n_16, n_20, n_21, n_22, n_23, n_30, n_31, n_32, n_40, n_41, n_42, n_43, n_45, n_48, n_50, n_51, n_52, n_57, n_59, n_60, n_61, n_62, n_63, n_72, n_97, n_99, n_100, n_108, n_120, n_122, n_123, n_125, n_127, n_180, n_255, n_400, n_700, n_999, n_9999, n_2000000, n_2147483647, i3_add, i3_sub, i3_mul, i3_neg, i3_div, max_i3, min_i3, i6_add, i6_sub, i6_mul, i6_neg, c_lt_t, c_lt_f, c_ge_t, c_ge_f, c_gt_t, c_gt_f, c_le_t, c_le_f, c_eq_t, c_eq_f, c_ne_t, c_ne_f, in_t, i3_ofNat, ↓reduceIte, or_true, true_or, or_false, false_or, and_true, true_and, and_false, false_and, decide_true, decide_false, Bool.false_eq_true, not_true_eq_false, not_false_eq_true, Bool.true_and, Bool.false_and, Bool.and_true, Bool.and_false, Bool.true_or, Bool.false_or, Bool.or_true, Bool.or_false, e3_t, e3_f, sw_t, sw_f, sj_t, sj_f, i36, lg6_lt, lg6_eq, lg6_gt, Int.add_sub_cancel, l_0, l_1, l_2, l_3, l_4, l_5, l_10, l_9999, is_b (b_b h), e7t h ho, e8 h ho, is_tm (b_b h), e104 h hd ho]
      · simp (disch := omega) only [let_eq, mjBp_some, mjBd_some, n_0, n_1, n_2, n_3, n_4, n_5, n_6, n_7, n_8, n_9, n_10, n_11, n_12, n_13, n_16, n_20, n_21, n_22, n_23, n_30, n_31, n_32, n_40, n_41, n_42, n_43, n_45, n_48, n_50, n_51, n_52, n_57, n_59, n_60, n_61, n_62, n_63, n_72, n_97, n_99, n_100, n_108, n_120, n_122, n_123, n_125, n_127, n_180, n_255, n_400, n_700, n_999, n_9999, n_2000000, n_2147483647, i3_add, i3_sub, i3_mul, i3_neg, i3_div, max_i3, min_i3, i6_add, i6_sub, i6_mul, i6_neg, c_lt_t, c_lt_f, c_ge_t, c_ge_f, c_gt_t, c_gt_f, c_le_t, c_le_f, c_eq_t, c_eq_f, c_ne_t, c_ne_f, in_t, i3_ofNat, ↓reduceIte, or_true, true_or, or_false, false_or, and_true, true_and, and_false, false_and, decide_true, decide_false, Bool.false_eq_true, not_true_eq_false, not_false_eq_true, Bool.true_and, Bool.false_and, Bool.and_true, Bool.and_false, Bool.true_or, Bool.false_or, Bool.or_true, Bool.or_false, e3_t, e3_f, sw_t, sw_f, sj_t, sj_f, i36, lg6_lt, lg6_eq, lg6_gt, Int.add_sub_cancel, l_0, l_1, l_2, l_3, l_4, l_5, l_10, l_9999, m240t hm ho, m257 hm ho]
  · refine ⟨i3 (-1), ?_, ?_⟩
    · simp (disch := omega) only [let_eq, mjBp_some, mjBd_some, n_0, n_1, n_2, n_3, n_4, n_5, n_6, n_7, n_8, n_9, n_10, n_11, n_12, n_13, n_16, n_20, n_21, n_22, n_23, n_30, n_31, n_32, n_40, n_41, n_42, n_43, n_45, n_48, n_50, n_51, n_52, n_57, n_59, n_60, n_61, n_62, n_63, n_72, n_97, n_99, n_100, n_108, n_120, n_122, n_123, n_125, n_127, n_180, n_255, n_400, n_700, n_999, n_9999, n_2000000, n_2147483647, i3_add, i3_sub, i3_mul, i3_neg, i3_div, max_i3, min_i3, i6_add, i6_sub, i6_mul, i6_neg, c_lt_t, c_lt_f, c_ge_t, c_ge_f, c_gt_t, c_gt_f, c_le_t, c_le_f, c_eq_t, c_eq_f, c_ne_t, c_ne_f, in_t, i3_ofNat, ↓reduceIte, or_true, true_or, or_false, false_or, and_true, true_and, and_false, false_and, decide_true, decide_false, Bool.false_eq_true, not_true_eq_false, not_false_eq_true, Bool.true_and, Bool.false_and, Bool.and_true, Bool.and_false, Bool.true_or, Bool.false_or, Bool.or_true, Bool.or_false, e3_t, e3_f, sw_t, sw_f, sj_t, sj_f, i36, lg6_lt, lg6_eq, lg6_gt, Int.add_sub_cancel, l_0, l_1, l_2, l_3, l_4, l_5, l_10, l_9999, is_b (b_b h), e7f h ho]
    · simp (disch := omega) only [let_eq, mjBp_some, mjBd_some, n_0, n_1, n_2, n_3, n_4, n_5, n_6, n_7, n_8, n_9, n_10, n_11, n_12, n_13, n_16, n_20, n_21, n_22, n_23, n_30, n_31, n_32, n_40, n_41, n_42, n_43, n_45, n_48, n_50, n_51, n_52, n_57, n_59, n_60, n_61, n_62, n_63, n_72, n_97, n_99, n_100, n_108, n_120, n_122, n_123, n_125, n_127, n_180, n_255, n_400, n_700, n_999, n_9999, n_2000000, n_2147483647, i3_add, i3_sub, i3_mul, i3_neg, i3_div, max_i3, min_i3, i6_add, i6_sub, i6_mul, i6_neg, c_lt_t, c_lt_f, c_ge_t, c_ge_f, c_gt_t, c_gt_f, c_le_t, c_le_f, c_eq_t, c_eq_f, c_ne_t, c_ne_f, in_t, i3_ofNat, ↓reduceIte, or_true, true_or, or_false, false_or, and_true, true_and, and_false, false_and, decide_true, decide_false, Bool.false_eq_true, not_true_eq_false, not_false_eq_true, Bool.true_and, Bool.false_and, Bool.and_true, Bool.and_false, Bool.true_or, Bool.false_or, Bool.or_true, Bool.or_false, e3_t, e3_f, sw_t, sw_f, sj_t, sj_f, i36, lg6_lt, lg6_eq, lg6_gt, Int.add_sub_cancel, l_0, l_1, l_2, l_3, l_4, l_5, l_10, l_9999, m240f hm ho]
end CM
