/-! ACTS: told ones, boxes -/
section AC
variable {S : mjS}
theorem bs_mono {S : mjS} {t : Nat} : ∀ m, sBs S t ≤ sBs S (t + m)
  | 0 => Nat.le_refl _
  | m + 1 => by
    have := bs_mono (S := S) (t := t) m
    rw [← Nat.add_assoc, sBs]; omega
theorem btF_spec {K : Nat} (hK : K < sBs S (sT S)) : ∀ f t, sBs S t ≤ K → sT S ≤ t + f → t ≤ sBtF S f (K - sBs S t) t ∧ sBtF S f (K - sBs S t) t < sT S ∧ sBs S (sBtF S f (K - sBs S t) t) ≤ K ∧ K < sBs S (sBtF S f (K - sBs S t) t + 1)
  | f, t, h1, h2 => by
    have ht : t < sT S := by
      rcases Nat.lt_or_ge t (sT S) with q | q
      · exact q
      · have := bs_mono (S := S) (t := sT S) (t - sT S)
        rw [show sT S + (t - sT S) = t by omega] at this
        omega
    match f with
    | 0 => omega
    | f + 1 =>
      rw [sBtF]
      by_cases q : K - sBs S t < sBx S t
      · rw [if_pos q]
        exact ⟨Nat.le_refl _, ht, h1, by rw [sBs]; omega⟩
      · rw [if_neg q]
        have e : K - sBs S t - sBx S t = K - sBs S (t + 1) := by rw [sBs]; omega
        obtain ⟨g1, g2, g3, g4⟩ := btF_spec hK f (t + 1) (by rw [sBs]; omega) (by omega)
        rw [e]
        exact ⟨by omega, g2, g3, g4⟩
theorem bt_spec (ho : okS S) {K : Nat} (hK : K < sBs S (sT S)) : sBt S K < sT S ∧ sBs S (sBt S K) ≤ K ∧ K < sBs S (sBt S K) + sBx S (sBt S K) := by
  have o1 := ok_sc ho
  obtain ⟨_, g2, g3, g4⟩ := btF_spec hK 6 0 (by simp [sBs]) (by omega)
  have e : sBtF S 6 (K - sBs S 0) 0 = sBt S K := rfl
  rw [e] at g2 g3 g4
  exact ⟨g2, g3, g4⟩
/-- team and leg of a box -/
theorem bl_spec (ho : okS S) {K : Nat} (hK : K < sBs S (sT S)) : sBt S K < sT S ∧ sBl S K < sTd S (sBt S K) ∧ sBl S K + 1 < sLg S ∧ sBl S K < sBx S (sBt S K) ∧ K = sBs S (sBt S K) + sBl S K := by
  obtain ⟨g1, g2, g3⟩ := bt_spec ho hK
  have o2 := ok_tm ho g1
  have o3 := ok_pos ho (by omega)
  unfold sBl
  unfold sBx at g3 ⊢
  split at g3 <;> split <;> omega
theorem te_bd (ho : okS S) {a : Nat} (ha : a < sAll S) : 0 ≤ sTe S a ∧ sTe S a ≤ 9999 := by
  unfold sTe
  split
  · rename_i q
    have := ok_act ho q
    omega
  · unfold sAll at ha
    obtain ⟨g1, g2, g3, g4, g5⟩ := bl_spec ho (K := a - sA S) (by omega)
    have := en_bd ho g1 (sBl S (a - sA S) + 1) (by omega)
    have := ok_sc ho
    omega
theorem out_bd (ho : okS S) {m : Int} (hm : -20 ≤ m ∧ m ≤ 20) : 0 ≤ sOut S m ∧ sOut S m ≤ 99 := by
  have o4 := ok_tr ho
  unfold sOut
  split
  · omega
  · split <;> omega
theorem sz_bd (ho : okS S) {a : Nat} (ha : a < sAll S) : 0 ≤ sSz S a ∧ sSz S a ≤ 99 := by
  unfold sSz
  split
  · rename_i q
    have := ok_act ho q
    omega
  · unfold sAll at ha
    obtain ⟨g1, g2, g3, g4, g5⟩ := bl_spec ho (K := a - sA S) (by omega)
    have := ok_leg ho g1 g2
    exact out_bd ho (by omega)
theorem tmA_lt (ho : okS S) {a : Nat} (ha : a < sAll S) : sTmA S a < sT S := by
  unfold sTmA
  split
  · rename_i q
    exact (ok_act ho q).2.2.2.1
  · unfold sAll at ha
    exact (bl_spec ho (K := a - sA S) (by omega)).1
theorem kd_bd (ho : okS S) {a : Nat} : 0 ≤ sKd S a ∧ sKd S a ≤ 4 ∧ (a < sA S → sKd S a ≤ 3) ∧ (¬ a < sA S → sKd S a = 4) := by
  unfold sKd
  split
  · rename_i q
    have := ok_act ho q
    exact ⟨by omega, by omega, fun _ => by omega, fun h => by omega⟩
  · exact ⟨by omega, by omega, fun h => by omega, fun _ => rfl⟩
/-- the other: none, or a team that is another one; of impede alone -/
theorem ot_cases (ho : okS S) {a : Nat} : (sOt S a = -1 ∧ sKd S a ≠ 3) ∨ (∃ o : Nat, sOt S a = o ∧ o < sT S ∧ o ≠ sTmA S a ∧ sKd S a = 3 ∧ a < sA S) := by
  unfold sOt sKd sTmA
  by_cases q : a < sA S
  · rw [if_pos q, if_pos q, if_pos q]
    have := ok_act ho q
    by_cases q2 : S 4 a = 3
    · refine Or.inr ⟨(S 6 a).toNat, by omega, by omega, by omega, q2, q⟩
    · exact Or.inl ⟨by omega, q2⟩
  · rw [if_neg q, if_neg q]
    exact Or.inl ⟨rfl, by omega⟩
end AC
section MA
variable {S : mjS} {Z : mjZt}
theorem m250 (h : mRep Z S) (ho : okS S) {t : Nat} (ht : t < sT S) : f250_boxesOf (i3 t) Z = some (i3 (sBx S t)) := by
  have o1 := ok_sc ho
  have o2 := ok_tm ho ht
  have o3 := ok_pos ho (by omega)
  unfold f250_boxesOf sBx
  by_cases q : sTd S t < sLg S
  · rw [if_pos q]
    simp (disch := omega) only [let_eq, mjBp_some, mjBd_some, n_0, n_1, n_2, n_3, n_4, n_5, n_6, n_7, n_8, n_9, n_10, n_11, n_12, n_13, n_16, n_20, n_21, n_22, n_23, n_30, n_31, n_32, n_40, n_41, n_42, n_43, n_45, n_48, n_50, n_51, n_52, n_57, n_59, n_60, n_61, n_62, n_63, n_72, n_97, n_99, n_100, n_108, n_120, n_122, n_123, n_125, n_127, n_180, n_255, n_400, n_700, n_999, n_9999, n_2000000, n_2147483647, i3_add, i3_sub, i3_mul, i3_neg, i3_div, max_i3, min_i3, i6_add, i6_sub, i6_mul, i6_neg, c_lt_t, c_lt_f, c_ge_t, c_ge_f, c_gt_t, c_gt_f, c_le_t, c_le_f, c_eq_t, c_eq_f, c_ne_t, c_ne_f, in_t, i3_ofNat, ↓reduceIte, or_true, true_or, or_false, false_or, and_true, true_and, and_false, false_and, decide_true, decide_false, Bool.false_eq_true, not_true_eq_false, not_false_eq_true, Bool.true_and, Bool.false_and, Bool.and_true, Bool.and_false, Bool.true_or, Bool.false_or, Bool.or_true, Bool.or_false, e3_t, e3_f, sw_t, sw_f, sj_t, sj_f, i36, lg6_lt, lg6_eq, lg6_gt, Int.add_sub_cancel, l_0, l_1, l_2, l_3, l_4, l_5, l_10, l_9999, ix_nat, m_td h ho ht, m_tr h, ok_lg ho]
  · rw [if_neg q]
    simp (disch := omega) only [let_eq, mjBp_some, mjBd_some, n_0, n_1, n_2, n_3, n_4, n_5, n_6, n_7, n_8, n_9, n_10, n_11, n_12, n_13, n_16, n_20, n_21, n_22, n_23, n_30, n_31, n_32, n_40, n_41, n_42, n_43, n_45, n_48, n_50, n_51, n_52, n_57, n_59, n_60, n_61, n_62, n_63, n_72, n_97, n_99, n_100, n_108, n_120, n_122, n_123, n_125, n_127, n_180, n_255, n_400, n_700, n_999, n_9999, n_2000000, n_2147483647, i3_add, i3_sub, i3_mul, i3_neg, i3_div, max_i3, min_i3, i6_add, i6_sub, i6_mul, i6_neg, c_lt_t, c_lt_f, c_ge_t, c_ge_f, c_gt_t, c_gt_f, c_le_t, c_le_f, c_eq_t, c_eq_f, c_ne_t, c_ne_f, in_t, i3_ofNat, ↓reduceIte, or_true, true_or, or_false, false_or, and_true, true_and, and_false, false_and, decide_true, decide_false, Bool.false_eq_true, not_true_eq_false, not_false_eq_true, Bool.true_and, Bool.false_and, Bool.and_true, Bool.and_false, Bool.true_or, Bool.false_or, Bool.or_true, Bool.or_false, e3_t, e3_f, sw_t, sw_f, sj_t, sj_f, i36, lg6_lt, lg6_eq, lg6_gt, Int.add_sub_cancel, l_0, l_1, l_2, l_3, l_4, l_5, l_10, l_9999, ix_nat, m_td h ho ht, m_tr h, ok_lg ho]
    congr 2
    omega
theorem m251h (h : mRep Z S) (ho : okS S) : ∀ f i n, i + f = sT S → f < n → f251_allActs_h7 n (i3 ((sA S + sBs S i : Nat) : Int)) (i3 i) Z = some (i3 (sAll S))
  | f, i, 0, _, hn => by omega
  | 0, i, n + 1, hf, _ => by
    obtain rfl : i = sT S := by omega
    have o1 := ok_sc ho
    rw [f251_allActs_h7]
    simp (disch := omega) only [let_eq, mjBp_some, mjBd_some, n_0, n_1, n_2, n_3, n_4, n_5, n_6, n_7, n_8, n_9, n_10, n_11, n_12, n_13, n_16, n_20, n_21, n_22, n_23, n_30, n_31, n_32, n_40, n_41, n_42, n_43, n_45, n_48, n_50, n_51, n_52, n_57, n_59, n_60, n_61, n_62, n_63, n_72, n_97, n_99, n_100, n_108, n_120, n_122, n_123, n_125, n_127, n_180, n_255, n_400, n_700, n_999, n_9999, n_2000000, n_2147483647, i3_add, i3_sub, i3_mul, i3_neg, i3_div, max_i3, min_i3, i6_add, i6_sub, i6_mul, i6_neg, c_lt_t, c_lt_f, c_ge_t, c_ge_f, c_gt_t, c_gt_f, c_le_t, c_le_f, c_eq_t, c_eq_f, c_ne_t, c_ne_f, in_t, i3_ofNat, ↓reduceIte, or_true, true_or, or_false, false_or, and_true, true_and, and_false, false_and, decide_true, decide_false, Bool.false_eq_true, not_true_eq_false, not_false_eq_true, Bool.true_and, Bool.false_and, Bool.and_true, Bool.and_false, Bool.true_or, Bool.false_or, Bool.or_true, Bool.or_false, e3_t, e3_f, sw_t, sw_f, sj_t, sj_f, i36, lg6_lt, lg6_eq, lg6_gt, Int.add_sub_cancel, l_0, l_1, l_2, l_3, l_4, l_5, l_10, l_9999, m_T h]
    rfl
  | f + 1, i, n + 1, hf, hn => by
    have hi : i < sT S := by omega
    have o1 := ok_sc ho
    have ih := m251h h ho f (i + 1) n (by omega) (by omega)
    rw [f251_allActs_h7]
    simp (disch := omega) only [let_eq, mjBp_some, mjBd_some, n_0, n_1, n_2, n_3, n_4, n_5, n_6, n_7, n_8, n_9, n_10, n_11, n_12, n_13, n_16, n_20, n_21, n_22, n_23, n_30, n_31, n_32, n_40, n_41, n_42, n_43, n_45, n_48, n_50, n_51, n_52, n_57, n_59, n_60, n_61, n_62, n_63, n_72, n_97, n_99, n_100, n_108, n_120, n_122, n_123, n_125, n_127, n_180, n_255, n_400, n_700, n_999, n_9999, n_2000000, n_2147483647, i3_add, i3_sub, i3_mul, i3_neg, i3_div, max_i3, min_i3, i6_add, i6_sub, i6_mul, i6_neg, c_lt_t, c_lt_f, c_ge_t, c_ge_f, c_gt_t, c_gt_f, c_le_t, c_le_f, c_eq_t, c_eq_f, c_ne_t, c_ne_f, in_t, i3_ofNat, ↓reduceIte, or_true, true_or, or_false, false_or, and_true, true_and, and_false, false_and, decide_true, decide_false, Bool.false_eq_true, not_true_eq_false, not_false_eq_true, Bool.true_and, Bool.false_and, Bool.and_true, Bool.and_false, Bool.true_or, Bool.false_or, Bool.or_true, Bool.or_false, e3_t, e3_f, sw_t, sw_f, sj_t, sj_f, i36, lg6_lt, lg6_eq, lg6_gt, Int.add_sub_cancel, l_0, l_1, l_2, l_3, l_4, l_5, l_10, l_9999, m_T h, m250 h ho hi]
    rw [show ((sA S + sBs S i : Nat) : Int) + (sBx S i : Int) = ((sA S + sBs S (i + 1) : Nat) : Int) by rw [sBs]; omega]
    exact ih
theorem m251 (h : mRep Z S) (ho : okS S) : f251_allActs Z = some (i3 (sAll S)) := by
  unfold f251_allActs
  rw [m_A h]
  exact m251h h ho (sT S) 0 mjF (by omega) (by have := ok_sc ho; unfold mjF; omega)
theorem m270t (h : mRep Z S) (ho : okS S) {a : Nat} (ha : a < sAll S) : f270_isAct (i3 a) Z = some (i3 1) := by
  have o1 := all_le ho
  unfold f270_isAct
  simp (disch := omega) only [let_eq, mjBp_some, mjBd_some, n_0, n_1, n_2, n_3, n_4, n_5, n_6, n_7, n_8, n_9, n_10, n_11, n_12, n_13, n_16, n_20, n_21, n_22, n_23, n_30, n_31, n_32, n_40, n_41, n_42, n_43, n_45, n_48, n_50, n_51, n_52, n_57, n_59, n_60, n_61, n_62, n_63, n_72, n_97, n_99, n_100, n_108, n_120, n_122, n_123, n_125, n_127, n_180, n_255, n_400, n_700, n_999, n_9999, n_2000000, n_2147483647, i3_add, i3_sub, i3_mul, i3_neg, i3_div, max_i3, min_i3, i6_add, i6_sub, i6_mul, i6_neg, c_lt_t, c_lt_f, c_ge_t, c_ge_f, c_gt_t, c_gt_f, c_le_t, c_le_f, c_eq_t, c_eq_f, c_ne_t, c_ne_f, in_t, i3_ofNat, ↓reduceIte, or_true, true_or, or_false, false_or, and_true, true_and, and_false, false_and, decide_true, decide_false, Bool.false_eq_true, not_true_eq_false, not_false_eq_true, Bool.true_and, Bool.false_and, Bool.and_true, Bool.and_false, Bool.true_or, Bool.false_or, Bool.or_true, Bool.or_false, e3_t, e3_f, sw_t, sw_f, sj_t, sj_f, i36, lg6_lt, lg6_eq, lg6_gt, Int.add_sub_cancel, l_0, l_1, l_2, l_3, l_4, l_5, l_10, l_9999, m251 h ho, m195t]
theorem m270f (h : mRep Z S) (ho : okS S) {a : Int} (ha : -2147483648 ≤ a ∧ a ≤ 2147483647 ∧ (a < 0 ∨ sAll S ≤ a)) : f270_isAct (i3 a) Z = some (i3 0) := by
  have o1 := all_le ho
  unfold f270_isAct
  simp (disch := omega) only [let_eq, mjBp_some, mjBd_some, n_0, n_1, n_2, n_3, n_4, n_5, n_6, n_7, n_8, n_9, n_10, n_11, n_12, n_13, n_16, n_20, n_21, n_22, n_23, n_30, n_31, n_32, n_40, n_41, n_42, n_43, n_45, n_48, n_50, n_51, n_52, n_57, n_59, n_60, n_61, n_62, n_63, n_72, n_97, n_99, n_100, n_108, n_120, n_122, n_123, n_125, n_127, n_180, n_255, n_400, n_700, n_999, n_9999, n_2000000, n_2147483647, i3_add, i3_sub, i3_mul, i3_neg, i3_div, max_i3, min_i3, i6_add, i6_sub, i6_mul, i6_neg, c_lt_t, c_lt_f, c_ge_t, c_ge_f, c_gt_t, c_gt_f, c_le_t, c_le_f, c_eq_t, c_eq_f, c_ne_t, c_ne_f, in_t, i3_ofNat, ↓reduceIte, or_true, true_or, or_false, false_or, and_true, true_and, and_false, false_and, decide_true, decide_false, Bool.false_eq_true, not_true_eq_false, not_false_eq_true, Bool.true_and, Bool.false_and, Bool.and_true, Bool.and_false, Bool.true_or, Bool.false_or, Bool.or_true, Bool.or_false, e3_t, e3_f, sw_t, sw_f, sj_t, sj_f, i36, lg6_lt, lg6_eq, lg6_gt, Int.add_sub_cancel, l_0, l_1, l_2, l_3, l_4, l_5, l_10, l_9999, m251 h ho, m195f]
theorem m271h (h : mRep Z S) (ho : okS S) {K : Nat} (hK : K < sBs S (sT S)) : ∀ f t n, sBs S t ≤ K → sT S ≤ t + f → f < n → f271_boxTeam_h9 n (i3 ((K : Int) - sBs S t)) (i3 t) Z = some (i3 (sBtF S f (K - sBs S t) t))
  | f, t, 0, _, _, hn => by omega
  | f, t, n + 1, h1, h2, hn => by
    have o1 := ok_sc ho
    have o5 := bs_le ho (sT S)
    have ht : t < sT S := by
      have := btF_spec hK f t h1 h2
      omega
    have bx := bx_le ho (t := t)
    match f with
    | 0 => omega
    | f + 1 =>
      rw [f271_boxTeam_h9, sBtF]
      by_cases q : K - sBs S t < sBx S t
      · rw [if_pos q]
        simp (disch := omega) only [let_eq, mjBp_some, mjBd_some, n_0, n_1, n_2, n_3, n_4, n_5, n_6, n_7, n_8, n_9, n_10, n_11, n_12, n_13, n_16, n_20, n_21, n_22, n_23, n_30, n_31, n_32, n_40, n_41, n_42, n_43, n_45, n_48, n_50, n_51, n_52, n_57, n_59, n_60, n_61, n_62, n_63, n_72, n_97, n_99, n_100, n_108, n_120, n_122, n_123, n_125, n_127, n_180, n_255, n_400, n_700, n_999, n_9999, n_2000000, n_2147483647, i3_add, i3_sub, i3_mul, i3_neg, i3_div, max_i3, min_i3, i6_add, i6_sub, i6_mul, i6_neg, c_lt_t, c_lt_f, c_ge_t, c_ge_f, c_gt_t, c_gt_f, c_le_t, c_le_f, c_eq_t, c_eq_f, c_ne_t, c_ne_f, in_t, i3_ofNat, ↓reduceIte, or_true, true_or, or_false, false_or, and_true, true_and, and_false, false_and, decide_true, decide_false, Bool.false_eq_true, not_true_eq_false, not_false_eq_true, Bool.true_and, Bool.false_and, Bool.and_true, Bool.and_false, Bool.true_or, Bool.false_or, Bool.or_true, Bool.or_false, e3_t, e3_f, sw_t, sw_f, sj_t, sj_f, i36, lg6_lt, lg6_eq, lg6_gt, Int.add_sub_cancel, l_0, l_1, l_2, l_3, l_4, l_5, l_10, l_9999, m250 h ho ht]
      · rw [if_neg q]
        have e : K - sBs S t - sBx S t = K - sBs S (t + 1) := by rw [sBs]; omega
        have e2 : (K : Int) - sBs S t - sBx S t = (K : Int) - sBs S (t + 1) := by rw [sBs]; omega
        have ih := m271h h ho hK f (t + 1) n (by rw [sBs]; omega) (by omega) (by omega)
        rw [e]
        simp (disch := omega) only [let_eq, mjBp_some, mjBd_some, n_0, n_1, n_2, n_3, n_4, n_5, n_6, n_7, n_8, n_9, n_10, n_11, n_12, n_13, n_16, n_20, n_21, n_22, n_23, n_30, n_31, n_32, n_40, n_41, n_42, n_43, n_45, n_48, n_50, n_51, n_52, n_57, n_59, n_60, n_61, n_62, n_63, n_72, n_97, n_99, n_100, n_108, n_120, n_122, n_123, n_125, n_127, n_180, n_255, n_400, n_700, n_999, n_9999, n_2000000, n_2147483647, i3_add, i3_sub, i3_mul, i3_neg, i3_div, max_i3, min_i3, i6_add, i6_sub, i6_mul, i6_neg, c_lt_t, c_lt_f, c_ge_t, c_ge_f, c_gt_t, c_gt_f, c_le_t, c_le_f, c_eq_t, c_eq_f, c_ne_t, c_ne_f, in_t, i3_ofNat, ↓reduceIte, or_true, true_or, or_false, false_or, and_true, true_and, and_false, false_and, decide_true, decide_false, Bool.false_eq_true, not_true_eq_false, not_false_eq_true, Bool.true_and, Bool.false_and, Bool.and_true, Bool.and_false, Bool.true_or, Bool.false_or, Bool.or_true, Bool.or_false, e3_t, e3_f, sw_t, sw_f, sj_t, sj_f, i36, lg6_lt, lg6_eq, lg6_gt, Int.add_sub_cancel, l_0, l_1, l_2, l_3, l_4, l_5, l_10, l_9999, m250 h ho ht, e2]
        exact ih
theorem m271 (h : mRep Z S) (ho : okS S) {a : Nat} (ha : a < sAll S) (hb : sA S ≤ a) : f271_boxTeam (i3 a) Z = some (i3 (sBt S (a - sA S))) := by
  have o1 := ok_sc ho
  have hK : a - sA S < sBs S (sT S) := by unfold sAll at ha; omega
  have e := m271h h ho hK 6 0 mjF (by simp [sBs]) (by omega) (by unfold mjF; omega)
  unfold f271_boxTeam
  rw [m_A h, i3_sub, show (a : Int) - (sA S : Int) = ((a - sA S : Nat) : Int) - sBs S 0 by simp [sBs]; omega]
  exact e
theorem m272h (h : mRep Z S) (ho : okS S) {a : Nat} (ha : a < sAll S) (hb : sA S ≤ a) : ∀ f t n, t + f = sBt S (a - sA S) → f < n → f272_boxLeg_h9 n (i3 a) (i3 (((a - sA S : Nat) : Int) - sBs S t)) (i3 t) Z = some (i3 (sBl S (a - sA S)))
  | f, t, 0, _, hn => by omega
  | 0, t, n + 1, hf, _ => by
    have o1 := ok_sc ho
    have hK : a - sA S < sBs S (sT S) := by unfold sAll at ha; omega
    obtain ⟨g1, g2, g3, g4, g5⟩ := bl_spec ho hK
    rw [f272_boxLeg_h9]
    simp (disch := omega) only [let_eq, mjBp_some, mjBd_some, n_0, n_1, n_2, n_3, n_4, n_5, n_6, n_7, n_8, n_9, n_10, n_11, n_12, n_13, n_16, n_20, n_21, n_22, n_23, n_30, n_31, n_32, n_40, n_41, n_42, n_43, n_45, n_48, n_50, n_51, n_52, n_57, n_59, n_60, n_61, n_62, n_63, n_72, n_97, n_99, n_100, n_108, n_120, n_122, n_123, n_125, n_127, n_180, n_255, n_400, n_700, n_999, n_9999, n_2000000, n_2147483647, i3_add, i3_sub, i3_mul, i3_neg, i3_div, max_i3, min_i3, i6_add, i6_sub, i6_mul, i6_neg, c_lt_t, c_lt_f, c_ge_t, c_ge_f, c_gt_t, c_gt_f, c_le_t, c_le_f, c_eq_t, c_eq_f, c_ne_t, c_ne_f, in_t, i3_ofNat, ↓reduceIte, or_true, true_or, or_false, false_or, and_true, true_and, and_false, false_and, decide_true, decide_false, Bool.false_eq_true, not_true_eq_false, not_false_eq_true, Bool.true_and, Bool.false_and, Bool.and_true, Bool.and_false, Bool.true_or, Bool.false_or, Bool.or_true, Bool.or_false, e3_t, e3_f, sw_t, sw_f, sj_t, sj_f, i36, lg6_lt, lg6_eq, lg6_gt, Int.add_sub_cancel, l_0, l_1, l_2, l_3, l_4, l_5, l_10, l_9999, m271 h ho ha hb]
    rw [show t = sBt S (a - sA S) by omega]
    congr 2
    unfold sBl
    omega
  | f + 1, t, n + 1, hf, hn => by
    have o1 := ok_sc ho
    have hK : a - sA S < sBs S (sT S) := by unfold sAll at ha; omega
    obtain ⟨g1, g2, g3, g4, g5⟩ := bl_spec ho hK
    have ih := m272h h ho ha hb f (t + 1) n (by omega) (by omega)
    have e2 : ((a - sA S : Nat) : Int) - sBs S t - sBx S t = ((a - sA S : Nat) : Int) - sBs S (t + 1) := by rw [sBs]; omega
    rw [f272_boxLeg_h9]
    simp (disch := omega) only [let_eq, mjBp_some, mjBd_some, n_0, n_1, n_2, n_3, n_4, n_5, n_6, n_7, n_8, n_9, n_10, n_11, n_12, n_13, n_16, n_20, n_21, n_22, n_23, n_30, n_31, n_32, n_40, n_41, n_42, n_43, n_45, n_48, n_50, n_51, n_52, n_57, n_59, n_60, n_61, n_62, n_63, n_72, n_97, n_99, n_100, n_108, n_120, n_122, n_123, n_125, n_127, n_180, n_255, n_400, n_700, n_999, n_9999, n_2000000, n_2147483647, i3_add, i3_sub, i3_mul, i3_neg, i3_div, max_i3, min_i3, i6_add, i6_sub, i6_mul, i6_neg, c_lt_t, c_lt_f, c_ge_t, c_ge_f, c_gt_t, c_gt_f, c_le_t, c_le_f, c_eq_t, c_eq_f, c_ne_t, c_ne_f, in_t, i3_ofNat, ↓reduceIte, or_true, true_or, or_false, false_or, and_true, true_and, and_false, false_and, decide_true, decide_false, Bool.false_eq_true, not_true_eq_false, not_false_eq_true, Bool.true_and, Bool.false_and, Bool.and_true, Bool.and_false, Bool.true_or, Bool.false_or, Bool.or_true, Bool.or_false, e3_t, e3_f, sw_t, sw_f, sj_t, sj_f, i36, lg6_lt, lg6_eq, lg6_gt, Int.add_sub_cancel, l_0, l_1, l_2, l_3, l_4, l_5, l_10, l_9999, m271 h ho ha hb, m250 h ho (show t < sT S by omega), e2]
    exact ih
theorem m272 (h : mRep Z S) (ho : okS S) {a : Nat} (ha : a < sAll S) (hb : sA S ≤ a) : f272_boxLeg (i3 a) Z = some (i3 (sBl S (a - sA S))) := by
  have o1 := ok_sc ho
  have hK : a - sA S < sBs S (sT S) := by unfold sAll at ha; omega
  obtain ⟨g1, g2, g3, g4, g5⟩ := bl_spec ho hK
  have e := m272h h ho ha hb (sBt S (a - sA S)) 0 mjF (by omega) (by unfold mjF; omega)
  unfold f272_boxLeg
  rw [m_A h, i3_sub, show (a : Int) - (sA S : Int) = ((a - sA S : Nat) : Int) - sBs S 0 by simp [sBs]; omega]
  exact e
theorem m273 (h : mRep Z S) (ho : okS S) {a : Nat} (ha : a < sAll S) : f273_kindOf (i3 a) Z = some (i3 (sKd S a)) := by
  have o1 := ok_sc ho
  have o2 := all_le ho
  unfold f273_kindOf sKd
  by_cases q : a < sA S
  · rw [if_pos q]
    simp (disch := omega) only [let_eq, mjBp_some, mjBd_some, n_0, n_1, n_2, n_3, n_4, n_5, n_6, n_7, n_8, n_9, n_10, n_11, n_12, n_13, n_16, n_20, n_21, n_22, n_23, n_30, n_31, n_32, n_40, n_41, n_42, n_43, n_45, n_48, n_50, n_51, n_52, n_57, n_59, n_60, n_61, n_62, n_63, n_72, n_97, n_99, n_100, n_108, n_120, n_122, n_123, n_125, n_127, n_180, n_255, n_400, n_700, n_999, n_9999, n_2000000, n_2147483647, i3_add, i3_sub, i3_mul, i3_neg, i3_div, max_i3, min_i3, i6_add, i6_sub, i6_mul, i6_neg, c_lt_t, c_lt_f, c_ge_t, c_ge_f, c_gt_t, c_gt_f, c_le_t, c_le_f, c_eq_t, c_eq_f, c_ne_t, c_ne_f, in_t, i3_ofNat, ↓reduceIte, or_true, true_or, or_false, false_or, and_true, true_and, and_false, false_and, decide_true, decide_false, Bool.false_eq_true, not_true_eq_false, not_false_eq_true, Bool.true_and, Bool.false_and, Bool.and_true, Bool.and_false, Bool.true_or, Bool.false_or, Bool.or_true, Bool.or_false, e3_t, e3_f, sw_t, sw_f, sj_t, sj_f, i36, lg6_lt, lg6_eq, lg6_gt, Int.add_sub_cancel, l_0, l_1, l_2, l_3, l_4, l_5, l_10, l_9999, m_A h, ix_nat, m_ak h]
  · rw [if_neg q]
    simp (disch := omega) only [let_eq, mjBp_some, mjBd_some, n_0, n_1, n_2, n_3, n_4, n_5, n_6, n_7, n_8, n_9, n_10, n_11, n_12, n_13, n_16, n_20, n_21, n_22, n_23, n_30, n_31, n_32, n_40, n_41, n_42, n_43, n_45, n_48, n_50, n_51, n_52, n_57, n_59, n_60, n_61, n_62, n_63, n_72, n_97, n_99, n_100, n_108, n_120, n_122, n_123, n_125, n_127, n_180, n_255, n_400, n_700, n_999, n_9999, n_2000000, n_2147483647, i3_add, i3_sub, i3_mul, i3_neg, i3_div, max_i3, min_i3, i6_add, i6_sub, i6_mul, i6_neg, c_lt_t, c_lt_f, c_ge_t, c_ge_f, c_gt_t, c_gt_f, c_le_t, c_le_f, c_eq_t, c_eq_f, c_ne_t, c_ne_f, in_t, i3_ofNat, ↓reduceIte, or_true, true_or, or_false, false_or, and_true, true_and, and_false, false_and, decide_true, decide_false, Bool.false_eq_true, not_true_eq_false, not_false_eq_true, Bool.true_and, Bool.false_and, Bool.and_true, Bool.and_false, Bool.true_or, Bool.false_or, Bool.or_true, Bool.or_false, e3_t, e3_f, sw_t, sw_f, sj_t, sj_f, i36, lg6_lt, lg6_eq, lg6_gt, Int.add_sub_cancel, l_0, l_1, l_2, l_3, l_4, l_5, l_10, l_9999, m_A h]
theorem m274 (h : mRep Z S) (ho : okS S) {a : Nat} (ha : a < sAll S) : f274_teamOf (i3 a) Z = some (i3 (sTmA S a)) := by
  have o1 := ok_sc ho
  have o2 := all_le ho
  unfold f274_teamOf sTmA
  by_cases q : a < sA S
  · have o3 := ok_act ho q
    rw [if_pos q]
    simp (disch := omega) only [let_eq, mjBp_some, mjBd_some, n_0, n_1, n_2, n_3, n_4, n_5, n_6, n_7, n_8, n_9, n_10, n_11, n_12, n_13, n_16, n_20, n_21, n_22, n_23, n_30, n_31, n_32, n_40, n_41, n_42, n_43, n_45, n_48, n_50, n_51, n_52, n_57, n_59, n_60, n_61, n_62, n_63, n_72, n_97, n_99, n_100, n_108, n_120, n_122, n_123, n_125, n_127, n_180, n_255, n_400, n_700, n_999, n_9999, n_2000000, n_2147483647, i3_add, i3_sub, i3_mul, i3_neg, i3_div, max_i3, min_i3, i6_add, i6_sub, i6_mul, i6_neg, c_lt_t, c_lt_f, c_ge_t, c_ge_f, c_gt_t, c_gt_f, c_le_t, c_le_f, c_eq_t, c_eq_f, c_ne_t, c_ne_f, in_t, i3_ofNat, ↓reduceIte, or_true, true_or, or_false, false_or, and_true, true_and, and_false, false_and, decide_true, decide_false, Bool.false_eq_true, not_true_eq_false, not_false_eq_true, Bool.true_and, Bool.false_and, Bool.and_true, Bool.and_false, Bool.true_or, Bool.false_or, Bool.or_true, Bool.or_false, e3_t, e3_f, sw_t, sw_f, sj_t, sj_f, i36, lg6_lt, lg6_eq, lg6_gt, Int.add_sub_cancel, l_0, l_1, l_2, l_3, l_4, l_5, l_10, l_9999, m_A h, ix_nat, m_at h]
    congr 2
    omega
  · rw [if_neg q]
    simp (disch := omega) only [let_eq, mjBp_some, mjBd_some, n_0, n_1, n_2, n_3, n_4, n_5, n_6, n_7, n_8, n_9, n_10, n_11, n_12, n_13, n_16, n_20, n_21, n_22, n_23, n_30, n_31, n_32, n_40, n_41, n_42, n_43, n_45, n_48, n_50, n_51, n_52, n_57, n_59, n_60, n_61, n_62, n_63, n_72, n_97, n_99, n_100, n_108, n_120, n_122, n_123, n_125, n_127, n_180, n_255, n_400, n_700, n_999, n_9999, n_2000000, n_2147483647, i3_add, i3_sub, i3_mul, i3_neg, i3_div, max_i3, min_i3, i6_add, i6_sub, i6_mul, i6_neg, c_lt_t, c_lt_f, c_ge_t, c_ge_f, c_gt_t, c_gt_f, c_le_t, c_le_f, c_eq_t, c_eq_f, c_ne_t, c_ne_f, in_t, i3_ofNat, ↓reduceIte, or_true, true_or, or_false, false_or, and_true, true_and, and_false, false_and, decide_true, decide_false, Bool.false_eq_true, not_true_eq_false, not_false_eq_true, Bool.true_and, Bool.false_and, Bool.and_true, Bool.and_false, Bool.true_or, Bool.false_or, Bool.or_true, Bool.or_false, e3_t, e3_f, sw_t, sw_f, sj_t, sj_f, i36, lg6_lt, lg6_eq, lg6_gt, Int.add_sub_cancel, l_0, l_1, l_2, l_3, l_4, l_5, l_10, l_9999, m_A h, m271 h ho ha]
theorem m275 (h : mRep Z S) (ho : okS S) {a : Nat} (ha : a < sAll S) : f275_otherOf (i3 a) Z = some (i3 (sOt S a)) := by
  have o1 := ok_sc ho
  have o2 := all_le ho
  unfold f275_otherOf sOt
  by_cases q : a < sA S
  · rw [if_pos q]
    simp (disch := omega) only [let_eq, mjBp_some, mjBd_some, n_0, n_1, n_2, n_3, n_4, n_5, n_6, n_7, n_8, n_9, n_10, n_11, n_12, n_13, n_16, n_20, n_21, n_22, n_23, n_30, n_31, n_32, n_40, n_41, n_42, n_43, n_45, n_48, n_50, n_51, n_52, n_57, n_59, n_60, n_61, n_62, n_63, n_72, n_97, n_99, n_100, n_108, n_120, n_122, n_123, n_125, n_127, n_180, n_255, n_400, n_700, n_999, n_9999, n_2000000, n_2147483647, i3_add, i3_sub, i3_mul, i3_neg, i3_div, max_i3, min_i3, i6_add, i6_sub, i6_mul, i6_neg, c_lt_t, c_lt_f, c_ge_t, c_ge_f, c_gt_t, c_gt_f, c_le_t, c_le_f, c_eq_t, c_eq_f, c_ne_t, c_ne_f, in_t, i3_ofNat, ↓reduceIte, or_true, true_or, or_false, false_or, and_true, true_and, and_false, false_and, decide_true, decide_false, Bool.false_eq_true, not_true_eq_false, not_false_eq_true, Bool.true_and, Bool.false_and, Bool.and_true, Bool.and_false, Bool.true_or, Bool.false_or, Bool.or_true, Bool.or_false, e3_t, e3_f, sw_t, sw_f, sj_t, sj_f, i36, lg6_lt, lg6_eq, lg6_gt, Int.add_sub_cancel, l_0, l_1, l_2, l_3, l_4, l_5, l_10, l_9999, m_A h, ix_nat, m_ao h]
  · rw [if_neg q]
    simp (disch := omega) only [let_eq, mjBp_some, mjBd_some, n_0, n_1, n_2, n_3, n_4, n_5, n_6, n_7, n_8, n_9, n_10, n_11, n_12, n_13, n_16, n_20, n_21, n_22, n_23, n_30, n_31, n_32, n_40, n_41, n_42, n_43, n_45, n_48, n_50, n_51, n_52, n_57, n_59, n_60, n_61, n_62, n_63, n_72, n_97, n_99, n_100, n_108, n_120, n_122, n_123, n_125, n_127, n_180, n_255, n_400, n_700, n_999, n_9999, n_2000000, n_2147483647, i3_add, i3_sub, i3_mul, i3_neg, i3_div, max_i3, min_i3, i6_add, i6_sub, i6_mul, i6_neg, c_lt_t, c_lt_f, c_ge_t, c_ge_f, c_gt_t, c_gt_f, c_le_t, c_le_f, c_eq_t, c_eq_f, c_ne_t, c_ne_f, in_t, i3_ofNat, ↓reduceIte, or_true, true_or, or_false, false_or, and_true, true_and, and_false, false_and, decide_true, decide_false, Bool.false_eq_true, not_true_eq_false, not_false_eq_true, Bool.true_and, Bool.false_and, Bool.and_true, Bool.and_false, Bool.true_or, Bool.false_or, Bool.or_true, Bool.or_false, e3_t, e3_f, sw_t, sw_f, sj_t, sj_f, i36, lg6_lt, lg6_eq, lg6_gt, Int.add_sub_cancel, l_0, l_1, l_2, l_3, l_4, l_5, l_10, l_9999, m_A h]
theorem m276 (h : mRep Z S) (ho : okS S) {a : Nat} (ha : a < sAll S) : f276_tenthOf (i3 a) Z = some (i3 (sTe S a)) := by
  have o1 := ok_sc ho
  have o2 := all_le ho
  unfold f276_tenthOf sTe
  by_cases q : a < sA S
  · rw [if_pos q]
    simp (disch := omega) only [let_eq, mjBp_some, mjBd_some, n_0, n_1, n_2, n_3, n_4, n_5, n_6, n_7, n_8, n_9, n_10, n_11, n_12, n_13, n_16, n_20, n_21, n_22, n_23, n_30, n_31, n_32, n_40, n_41, n_42, n_43, n_45, n_48, n_50, n_51, n_52, n_57, n_59, n_60, n_61, n_62, n_63, n_72, n_97, n_99, n_100, n_108, n_120, n_122, n_123, n_125, n_127, n_180, n_255, n_400, n_700, n_999, n_9999, n_2000000, n_2147483647, i3_add, i3_sub, i3_mul, i3_neg, i3_div, max_i3, min_i3, i6_add, i6_sub, i6_mul, i6_neg, c_lt_t, c_lt_f, c_ge_t, c_ge_f, c_gt_t, c_gt_f, c_le_t, c_le_f, c_eq_t, c_eq_f, c_ne_t, c_ne_f, in_t, i3_ofNat, ↓reduceIte, or_true, true_or, or_false, false_or, and_true, true_and, and_false, false_and, decide_true, decide_false, Bool.false_eq_true, not_true_eq_false, not_false_eq_true, Bool.true_and, Bool.false_and, Bool.and_true, Bool.and_false, Bool.true_or, Bool.false_or, Bool.or_true, Bool.or_false, e3_t, e3_f, sw_t, sw_f, sj_t, sj_f, i36, lg6_lt, lg6_eq, lg6_gt, Int.add_sub_cancel, l_0, l_1, l_2, l_3, l_4, l_5, l_10, l_9999, m_A h, ix_i3, m_nw h]
    rw [show (72 + 3 * (a : Int)).toNat = 72 + 3 * a by omega]
  · obtain ⟨g1, g2, g3, g4, g5⟩ := bl_spec ho (K := a - sA S) (by unfold sAll at ha; omega)
    rw [if_neg q]
    simp (disch := omega) only [let_eq, mjBp_some, mjBd_some, n_0, n_1, n_2, n_3, n_4, n_5, n_6, n_7, n_8, n_9, n_10, n_11, n_12, n_13, n_16, n_20, n_21, n_22, n_23, n_30, n_31, n_32, n_40, n_41, n_42, n_43, n_45, n_48, n_50, n_51, n_52, n_57, n_59, n_60, n_61, n_62, n_63, n_72, n_97, n_99, n_100, n_108, n_120, n_122, n_123, n_125, n_127, n_180, n_255, n_400, n_700, n_999, n_9999, n_2000000, n_2147483647, i3_add, i3_sub, i3_mul, i3_neg, i3_div, max_i3, min_i3, i6_add, i6_sub, i6_mul, i6_neg, c_lt_t, c_lt_f, c_ge_t, c_ge_f, c_gt_t, c_gt_f, c_le_t, c_le_f, c_eq_t, c_eq_f, c_ne_t, c_ne_f, in_t, i3_ofNat, ↓reduceIte, or_true, true_or, or_false, false_or, and_true, true_and, and_false, false_and, decide_true, decide_false, Bool.false_eq_true, not_true_eq_false, not_false_eq_true, Bool.true_and, Bool.false_and, Bool.and_true, Bool.and_false, Bool.true_or, Bool.false_or, Bool.or_true, Bool.or_false, e3_t, e3_f, sw_t, sw_f, sj_t, sj_f, i36, lg6_lt, lg6_eq, lg6_gt, Int.add_sub_cancel, l_0, l_1, l_2, l_3, l_4, l_5, l_10, l_9999, m_A h, m271 h ho ha, m272 h ho ha, m245 h]
theorem m277 (h : mRep Z S) (ho : okS S) {a : Nat} (ha : a < sAll S) : f277_sizeOf (i3 a) Z = some (i3 (sSz S a)) := by
  have o1 := ok_sc ho
  have o2 := all_le ho
  have o4 := ok_tr ho
  unfold f277_sizeOf sSz
  by_cases q : a < sA S
  · rw [if_pos q]
    simp (disch := omega) only [let_eq, mjBp_some, mjBd_some, n_0, n_1, n_2, n_3, n_4, n_5, n_6, n_7, n_8, n_9, n_10, n_11, n_12, n_13, n_16, n_20, n_21, n_22, n_23, n_30, n_31, n_32, n_40, n_41, n_42, n_43, n_45, n_48, n_50, n_51, n_52, n_57, n_59, n_60, n_61, n_62, n_63, n_72, n_97, n_99, n_100, n_108, n_120, n_122, n_123, n_125, n_127, n_180, n_255, n_400, n_700, n_999, n_9999, n_2000000, n_2147483647, i3_add, i3_sub, i3_mul, i3_neg, i3_div, max_i3, min_i3, i6_add, i6_sub, i6_mul, i6_neg, c_lt_t, c_lt_f, c_ge_t, c_ge_f, c_gt_t, c_gt_f, c_le_t, c_le_f, c_eq_t, c_eq_f, c_ne_t, c_ne_f, in_t, i3_ofNat, ↓reduceIte, or_true, true_or, or_false, false_or, and_true, true_and, and_false, false_and, decide_true, decide_false, Bool.false_eq_true, not_true_eq_false, not_false_eq_true, Bool.true_and, Bool.false_and, Bool.and_true, Bool.and_false, Bool.true_or, Bool.false_or, Bool.or_true, Bool.or_false, e3_t, e3_f, sw_t, sw_f, sj_t, sj_f, i36, lg6_lt, lg6_eq, lg6_gt, Int.add_sub_cancel, l_0, l_1, l_2, l_3, l_4, l_5, l_10, l_9999, m_A h, ix_i3, m_nw h]
    rw [show (72 + 3 * (a : Int) + 1).toNat = 72 + 3 * a + 1 by omega]
  · obtain ⟨g1, g2, g3, g4, g5⟩ := bl_spec ho (K := a - sA S) (by unfold sAll at ha; omega)
    have g6 := ok_leg ho g1 g2
    rw [if_neg q]
    rcases (by omega : sMt S (sBt S (a - sA S)) (sBl S (a - sA S)) < -(S 0 2) ∨ S 0 3 < sMt S (sBt S (a - sA S)) (sBl S (a - sA S)) ∨ (-(S 0 2) ≤ sMt S (sBt S (a - sA S)) (sBl S (a - sA S)) ∧ sMt S (sBt S (a - sA S)) (sBl S (a - sA S)) ≤ S 0 3)) with q2 | q2 | q2
    · rw [show sOut S (sMt S (sBt S (a - sA S)) (sBl S (a - sA S))) = _ from if_pos q2]
      simp (disch := omega) only [let_eq, mjBp_some, mjBd_some, n_0, n_1, n_2, n_3, n_4, n_5, n_6, n_7, n_8, n_9, n_10, n_11, n_12, n_13, n_16, n_20, n_21, n_22, n_23, n_30, n_31, n_32, n_40, n_41, n_42, n_43, n_45, n_48, n_50, n_51, n_52, n_57, n_59, n_60, n_61, n_62, n_63, n_72, n_97, n_99, n_100, n_108, n_120, n_122, n_123, n_125, n_127, n_180, n_255, n_400, n_700, n_999, n_9999, n_2000000, n_2147483647, i3_add, i3_sub, i3_mul, i3_neg, i3_div, max_i3, min_i3, i6_add, i6_sub, i6_mul, i6_neg, c_lt_t, c_lt_f, c_ge_t, c_ge_f, c_gt_t, c_gt_f, c_le_t, c_le_f, c_eq_t, c_eq_f, c_ne_t, c_ne_f, in_t, i3_ofNat, ↓reduceIte, or_true, true_or, or_false, false_or, and_true, true_and, and_false, false_and, decide_true, decide_false, Bool.false_eq_true, not_true_eq_false, not_false_eq_true, Bool.true_and, Bool.false_and, Bool.and_true, Bool.and_false, Bool.true_or, Bool.false_or, Bool.or_true, Bool.or_false, e3_t, e3_f, sw_t, sw_f, sj_t, sj_f, i36, lg6_lt, lg6_eq, lg6_gt, Int.add_sub_cancel, l_0, l_1, l_2, l_3, l_4, l_5, l_10, l_9999, m_A h, m271 h ho ha, m272 h ho ha, m243 h, m_tr h]
    · rw [show sOut S (sMt S (sBt S (a - sA S)) (sBl S (a - sA S))) = sMt S (sBt S (a - sA S)) (sBl S (a - sA S)) - S 0 3 from (if_neg (by omega)).trans (if_pos q2)]
      simp (disch := omega) only [let_eq, mjBp_some, mjBd_some, n_0, n_1, n_2, n_3, n_4, n_5, n_6, n_7, n_8, n_9, n_10, n_11, n_12, n_13, n_16, n_20, n_21, n_22, n_23, n_30, n_31, n_32, n_40, n_41, n_42, n_43, n_45, n_48, n_50, n_51, n_52, n_57, n_59, n_60, n_61, n_62, n_63, n_72, n_97, n_99, n_100, n_108, n_120, n_122, n_123, n_125, n_127, n_180, n_255, n_400, n_700, n_999, n_9999, n_2000000, n_2147483647, i3_add, i3_sub, i3_mul, i3_neg, i3_div, max_i3, min_i3, i6_add, i6_sub, i6_mul, i6_neg, c_lt_t, c_lt_f, c_ge_t, c_ge_f, c_gt_t, c_gt_f, c_le_t, c_le_f, c_eq_t, c_eq_f, c_ne_t, c_ne_f, in_t, i3_ofNat, ↓reduceIte, or_true, true_or, or_false, false_or, and_true, true_and, and_false, false_and, decide_true, decide_false, Bool.false_eq_true, not_true_eq_false, not_false_eq_true, Bool.true_and, Bool.false_and, Bool.and_true, Bool.and_false, Bool.true_or, Bool.false_or, Bool.or_true, Bool.or_false, e3_t, e3_f, sw_t, sw_f, sj_t, sj_f, i36, lg6_lt, lg6_eq, lg6_gt, Int.add_sub_cancel, l_0, l_1, l_2, l_3, l_4, l_5, l_10, l_9999, m_A h, m271 h ho ha, m272 h ho ha, m243 h, m_tr h]
    · rw [show sOut S (sMt S (sBt S (a - sA S)) (sBl S (a - sA S))) = 0 from (if_neg (by omega)).trans (if_neg (by omega))]
      simp (disch := omega) only [let_eq, mjBp_some, mjBd_some, n_0, n_1, n_2, n_3, n_4, n_5, n_6, n_7, n_8, n_9, n_10, n_11, n_12, n_13, n_16, n_20, n_21, n_22, n_23, n_30, n_31, n_32, n_40, n_41, n_42, n_43, n_45, n_48, n_50, n_51, n_52, n_57, n_59, n_60, n_61, n_62, n_63, n_72, n_97, n_99, n_100, n_108, n_120, n_122, n_123, n_125, n_127, n_180, n_255, n_400, n_700, n_999, n_9999, n_2000000, n_2147483647, i3_add, i3_sub, i3_mul, i3_neg, i3_div, max_i3, min_i3, i6_add, i6_sub, i6_mul, i6_neg, c_lt_t, c_lt_f, c_ge_t, c_ge_f, c_gt_t, c_gt_f, c_le_t, c_le_f, c_eq_t, c_eq_f, c_ne_t, c_ne_f, in_t, i3_ofNat, ↓reduceIte, or_true, true_or, or_false, false_or, and_true, true_and, and_false, false_and, decide_true, decide_false, Bool.false_eq_true, not_true_eq_false, not_false_eq_true, Bool.true_and, Bool.false_and, Bool.and_true, Bool.and_false, Bool.true_or, Bool.false_or, Bool.or_true, Bool.or_false, e3_t, e3_f, sw_t, sw_f, sj_t, sj_f, i36, lg6_lt, lg6_eq, lg6_gt, Int.add_sub_cancel, l_0, l_1, l_2, l_3, l_4, l_5, l_10, l_9999, m_A h, m271 h ho ha, m272 h ho ha, m243 h, m_tr h]
def sAh (S : mjS) (a c : Nat) : Bool := decide (sTe S a < sTe S c ∨ (sTe S a = sTe S c ∧ a < c))
theorem m279 (h : mRep Z S) (ho : okS S) {a c : Nat} (ha : a < sAll S) (hc : c < sAll S) : f279_isAhead (i3 a) (i3 c) Z = some (i3 (if sAh S a c = true then 1 else 0)) := by
  have o2 := all_le ho
  have t1 := te_bd ho ha
  have t2 := te_bd ho hc
  unfold f279_isAhead sAh
  rcases Int.lt_trichotomy (sTe S a) (sTe S c) with q | q | q
  · rw [decide_eq_true (by omega)]
    simp (disch := omega) only [let_eq, mjBp_some, mjBd_some, n_0, n_1, n_2, n_3, n_4, n_5, n_6, n_7, n_8, n_9, n_10, n_11, n_12, n_13, n_16, n_20, n_21, n_22, n_23, n_30, n_31, n_32, n_40, n_41, n_42, n_43, n_45, n_48, n_50, n_51, n_52, n_57, n_59, n_60, n_61, n_62, n_63, n_72, n_97, n_99, n_100, n_108, n_120, n_122, n_123, n_125, n_127, n_180, n_255, n_400, n_700, n_999, n_9999, n_2000000, n_2147483647, i3_add, i3_sub, i3_mul, i3_neg, i3_div, max_i3, min_i3, i6_add, i6_sub, i6_mul, i6_neg, c_lt_t, c_lt_f, c_ge_t, c_ge_f, c_gt_t, c_gt_f, c_le_t, c_le_f, c_eq_t, c_eq_f, c_ne_t, c_ne_f, in_t, i3_ofNat, ↓reduceIte, or_true, true_or, or_false, false_or, and_true, true_and, and_false, false_and, decide_true, decide_false, Bool.false_eq_true, not_true_eq_false, not_false_eq_true, Bool.true_and, Bool.false_and, Bool.and_true, Bool.and_false, Bool.true_or, Bool.false_or, Bool.or_true, Bool.or_false, e3_t, e3_f, sw_t, sw_f, sj_t, sj_f, i36, lg6_lt, lg6_eq, lg6_gt, Int.add_sub_cancel, l_0, l_1, l_2, l_3, l_4, l_5, l_10, l_9999, m276 h ho]
  · by_cases q2 : a < c
    · rw [decide_eq_true (by omega)]
      simp (disch := omega) only [let_eq, mjBp_some, mjBd_some, n_0, n_1, n_2, n_3, n_4, n_5, n_6, n_7, n_8, n_9, n_10, n_11, n_12, n_13, n_16, n_20, n_21, n_22, n_23, n_30, n_31, n_32, n_40, n_41, n_42, n_43, n_45, n_48, n_50, n_51, n_52, n_57, n_59, n_60, n_61, n_62, n_63, n_72, n_97, n_99, n_100, n_108, n_120, n_122, n_123, n_125, n_127, n_180, n_255, n_400, n_700, n_999, n_9999, n_2000000, n_2147483647, i3_add, i3_sub, i3_mul, i3_neg, i3_div, max_i3, min_i3, i6_add, i6_sub, i6_mul, i6_neg, c_lt_t, c_lt_f, c_ge_t, c_ge_f, c_gt_t, c_gt_f, c_le_t, c_le_f, c_eq_t, c_eq_f, c_ne_t, c_ne_f, in_t, i3_ofNat, ↓reduceIte, or_true, true_or, or_false, false_or, and_true, true_and, and_false, false_and, decide_true, decide_false, Bool.false_eq_true, not_true_eq_false, not_false_eq_true, Bool.true_and, Bool.false_and, Bool.and_true, Bool.and_false, Bool.true_or, Bool.false_or, Bool.or_true, Bool.or_false, e3_t, e3_f, sw_t, sw_f, sj_t, sj_f, i36, lg6_lt, lg6_eq, lg6_gt, Int.add_sub_cancel, l_0, l_1, l_2, l_3, l_4, l_5, l_10, l_9999, m276 h ho]
    · rw [decide_eq_false (by omega)]
      simp (disch := omega) only [let_eq, mjBp_some, mjBd_some, n_0, n_1, n_2, n_3, n_4, n_5, n_6, n_7, n_8, n_9, n_10, n_11, n_12, n_13, n_16, n_20, n_21, n_22, n_23, n_30, n_31, n_32, n_40, n_41, n_42, n_43, n_45, n_48, n_50, n_51, n_52, n_57, n_59, n_60, n_61, n_62, n_63, n_72, n_97, n_99, n_100, n_108, n_120, n_122, n_123, n_125, n_127, n_180, n_255, n_400, n_700, n_999, n_9999, n_2000000, n_2147483647, i3_add, i3_sub, i3_mul, i3_neg, i3_div, max_i3, min_i3, i6_add, i6_sub, i6_mul, i6_neg, c_lt_t, c_lt_f, c_ge_t, c_ge_f, c_gt_t, c_gt_f, c_le_t, c_le_f, c_eq_t, c_eq_f, c_ne_t, c_ne_f, in_t, i3_ofNat, ↓reduceIte, or_true, true_or, or_false, false_or, and_true, true_and, and_false, false_and, decide_true, decide_false, Bool.false_eq_true, not_true_eq_false, not_false_eq_true, Bool.true_and, Bool.false_and, Bool.and_true, Bool.and_false, Bool.true_or, Bool.false_or, Bool.or_true, Bool.or_false, e3_t, e3_f, sw_t, sw_f, sj_t, sj_f, i36, lg6_lt, lg6_eq, lg6_gt, Int.add_sub_cancel, l_0, l_1, l_2, l_3, l_4, l_5, l_10, l_9999, m276 h ho]
  · rw [decide_eq_false (by omega)]
    simp (disch := omega) only [let_eq, mjBp_some, mjBd_some, n_0, n_1, n_2, n_3, n_4, n_5, n_6, n_7, n_8, n_9, n_10, n_11, n_12, n_13, n_16, n_20, n_21, n_22, n_23, n_30, n_31, n_32, n_40, n_41, n_42, n_43, n_45, n_48, n_50, n_51, n_52, n_57, n_59, n_60, n_61, n_62, n_63, n_72, n_97, n_99, n_100, n_108, n_120, n_122, n_123, n_125, n_127, n_180, n_255, n_400, n_700, n_999, n_9999, n_2000000, n_2147483647, i3_add, i3_sub, i3_mul, i3_neg, i3_div, max_i3, min_i3, i6_add, i6_sub, i6_mul, i6_neg, c_lt_t, c_lt_f, c_ge_t, c_ge_f, c_gt_t, c_gt_f, c_le_t, c_le_f, c_eq_t, c_eq_f, c_ne_t, c_ne_f, in_t, i3_ofNat, ↓reduceIte, or_true, true_or, or_false, false_or, and_true, true_and, and_false, false_and, decide_true, decide_false, Bool.false_eq_true, not_true_eq_false, not_false_eq_true, Bool.true_and, Bool.false_and, Bool.and_true, Bool.and_false, Bool.true_or, Bool.false_or, Bool.or_true, Bool.or_false, e3_t, e3_f, sw_t, sw_f, sj_t, sj_f, i36, lg6_lt, lg6_eq, lg6_gt, Int.add_sub_cancel, l_0, l_1, l_2, l_3, l_4, l_5, l_10, l_9999, m276 h ho]
end MA
