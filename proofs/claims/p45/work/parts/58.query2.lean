/-! QUERIES: order, cutIn, boldest, changes, behind, crowd, fastest -/
theorem fI_none {p : Nat → Bool} : ∀ f t, (∀ i, t ≤ i → i < t + f → p i = false) → fI p f t = -1
  | 0, _, _ => rfl
  | f + 1, t, h => by
    rw [fI, h t (by omega) (by omega)]
    exact fI_none f (t + 1) (fun i h1 h2 => h i (by omega) (by omega))
theorem fI_eq {p : Nat → Bool} {m : Nat} (hm : p m = true) : ∀ f t, t ≤ m → m < t + f → (∀ i, t ≤ i → i < m → p i = false) → fI p f t = m
  | 0, t, h1, h2, _ => by omega
  | f + 1, t, h1, h2, h => by
    rw [fI]
    by_cases q : t = m
    · subst q; rw [if_pos hm]
    · rw [h t (by omega) (by omega)]
      exact fI_eq hm f (t + 1) (by omega) (by omega) (fun i h3 h4 => h i (by omega) (by omega))
section Q2
variable {b : Nat} {S : mjS}
theorem e98h (ho : okS S) {k y : Int} (hk : 0 ≤ k ∧ k ≤ 9999) (hy : -2147483648 ≤ y ∧ y ≤ 2147483647) : ∀ f i n (Z : mjZt), i + f = 6 → f < n → cBk Z b S → cDr Z b S → (∀ o, o < i → o < sT S → Z.1 189 o = i3 (-(sPl S o k))) → ∃ Z1, f98_kthAt_h3 n b (i3 k) (i3 y) (i3 i) Z = some (i3 (kTh (fun _ => true) (fun t => -(sPl S t k)) (S 1) (sT S) y), Z1) ∧ eqQ Z Z1
  | f, i, 0, _, _, hn, _, _, _ => by omega
  | 0, i, n + 1, Z, hf, _, h, hd, hw => by
    obtain rfl : i = 6 := by omega
    have o1 := ok_sc ho
    have e := e44 (K := 189) (am := fun _ => true) (ky := fun t => -(sPl S t k)) h ho rfl rfl (fun o hq => by have := pl_bd ho hq k; omega) (fun o hq => by rw [if_pos rfl]; exact hw o (by omega) hq) hy
    rw [f98_kthAt_h3]
    refine ⟨Z, ?_, eqQ_rf⟩
    simp (disch := omega) only [let_eq, mjBp_some, mjBd_some, n_0, n_1, n_2, n_3, n_4, n_5, n_6, n_7, n_8, n_9, n_10, n_11, n_12, n_13, n_16, n_20, n_21, n_22, n_23, n_30, n_31, n_32, n_40, n_41, n_42, n_43, n_45, n_48, n_50, n_51, n_52, n_57, n_59, n_60, n_61, n_62, n_63, n_72, n_97, n_99, n_100, n_108, n_120, n_122, n_123, n_125, n_127, n_180, n_255, n_400, n_700, n_999, n_9999, n_2000000, n_2147483647, i3_add, i3_sub, i3_mul, i3_neg, i3_div, max_i3, min_i3, i6_add, i6_sub, i6_mul, i6_neg, c_lt_t, c_lt_f, c_ge_t, c_ge_f, c_gt_t, c_gt_f, c_le_t, c_le_f, c_eq_t, c_eq_f, c_ne_t, c_ne_f, in_t, i3_ofNat, ↓reduceIte, or_true, true_or, or_false, false_or, and_true, true_and, and_false, false_and, decide_true, decide_false, Bool.false_eq_true, not_true_eq_false, not_false_eq_true, Bool.true_and, Bool.false_and, Bool.and_true, Bool.and_false, Bool.true_or, Bool.false_or, Bool.or_true, Bool.or_false, e3_t, e3_f, sw_t, sw_f, sj_t, sj_f, i36, lg6_lt, lg6_eq, lg6_gt, Int.add_sub_cancel, l_0, l_1, l_2, l_3, l_4, l_5, l_10, l_9999, is_b (b_b h), e]
  | f + 1, i, n + 1, Z, hf, hn, h, hd, hw => by
    have o1 := ok_sc ho
    have hb := b_b h
    rw [f98_kthAt_h3]
    by_cases hi : i < sT S
    · have b1 := pl_bd ho hi k
      have q : eqQ Z (zSi Z 189 i (i3 (-(sPl S i k)))) := eqQ_si (by omega)
      obtain ⟨Z1, h1, h2⟩ := e98h ho hk hy f (i + 1) n _ (by omega) (by omega) (cBk_q ho h q) (cDr_q ho hb hd q) (fun o h1 h2 => by
        by_cases q3 : o = i
        · subst q3; exact si_same _ _ _ _
        · rw [si_fld _ _ _ _ (by omega)]; exact hw o (by omega) h2)
      refine ⟨Z1, ?_, eqQ_tr q h2⟩
      simp (disch := omega) only [let_eq, mjBp_some, mjBd_some, n_0, n_1, n_2, n_3, n_4, n_5, n_6, n_7, n_8, n_9, n_10, n_11, n_12, n_13, n_16, n_20, n_21, n_22, n_23, n_30, n_31, n_32, n_40, n_41, n_42, n_43, n_45, n_48, n_50, n_51, n_52, n_57, n_59, n_60, n_61, n_62, n_63, n_72, n_97, n_99, n_100, n_108, n_120, n_122, n_123, n_125, n_127, n_180, n_255, n_400, n_700, n_999, n_9999, n_2000000, n_2147483647, i3_add, i3_sub, i3_mul, i3_neg, i3_div, max_i3, min_i3, i6_add, i6_sub, i6_mul, i6_neg, c_lt_t, c_lt_f, c_ge_t, c_ge_f, c_gt_t, c_gt_f, c_le_t, c_le_f, c_eq_t, c_eq_f, c_ne_t, c_ne_f, in_t, i3_ofNat, ↓reduceIte, or_true, true_or, or_false, false_or, and_true, true_and, and_false, false_and, decide_true, decide_false, Bool.false_eq_true, not_true_eq_false, not_false_eq_true, Bool.true_and, Bool.false_and, Bool.and_true, Bool.and_false, Bool.true_or, Bool.false_or, Bool.or_true, Bool.or_false, e3_t, e3_f, sw_t, sw_f, sj_t, sj_f, i36, lg6_lt, lg6_eq, lg6_gt, Int.add_sub_cancel, l_0, l_1, l_2, l_3, l_4, l_5, l_10, l_9999, is_b (b_b h), e8 h ho, is_tm hb, e73 h hd ho, ix_nat]
      exact h1
    · have q : eqQ Z (zSi Z 189 i (i3 0)) := eqQ_si (by omega)
      obtain ⟨Z1, h1, h2⟩ := e98h ho hk hy f (i + 1) n _ (by omega) (by omega) (cBk_q ho h q) (cDr_q ho hb hd q) (fun o h1 h2 => by
        rw [si_fld _ _ _ _ (by omega)]; exact hw o (by omega) h2)
      refine ⟨Z1, ?_, eqQ_tr q h2⟩
      simp (disch := omega) only [let_eq, mjBp_some, mjBd_some, n_0, n_1, n_2, n_3, n_4, n_5, n_6, n_7, n_8, n_9, n_10, n_11, n_12, n_13, n_16, n_20, n_21, n_22, n_23, n_30, n_31, n_32, n_40, n_41, n_42, n_43, n_45, n_48, n_50, n_51, n_52, n_57, n_59, n_60, n_61, n_62, n_63, n_72, n_97, n_99, n_100, n_108, n_120, n_122, n_123, n_125, n_127, n_180, n_255, n_400, n_700, n_999, n_9999, n_2000000, n_2147483647, i3_add, i3_sub, i3_mul, i3_neg, i3_div, max_i3, min_i3, i6_add, i6_sub, i6_mul, i6_neg, c_lt_t, c_lt_f, c_ge_t, c_ge_f, c_gt_t, c_gt_f, c_le_t, c_le_f, c_eq_t, c_eq_f, c_ne_t, c_ne_f, in_t, i3_ofNat, ↓reduceIte, or_true, true_or, or_false, false_or, and_true, true_and, and_false, false_and, decide_true, decide_false, Bool.false_eq_true, not_true_eq_false, not_false_eq_true, Bool.true_and, Bool.false_and, Bool.and_true, Bool.and_false, Bool.true_or, Bool.false_or, Bool.or_true, Bool.or_false, e3_t, e3_f, sw_t, sw_f, sj_t, sj_f, i36, lg6_lt, lg6_eq, lg6_gt, Int.add_sub_cancel, l_0, l_1, l_2, l_3, l_4, l_5, l_10, l_9999, is_b (b_b h), e8n h ho, is_b12 hb, e73n h, ix_nat]
      exact h1
theorem m260h (ho : okS S) {k y : Int} (hk : 0 ≤ k ∧ k ≤ 9999) (hy : -2147483648 ≤ y ∧ y ≤ 2147483647) : ∀ f i n (Z : mjZt), i + f = sT S → f < n → mRep Z S → (∀ o, o < i → Z.1 242 o = i3 1 ∧ Z.1 241 o = i3 (-(sPl S o k))) → ∃ Z1, f260_order_h12 n (i3 k) (i3 y) (i3 i) Z = some (i3 (kTh (fun _ => true) (fun t => -(sPl S t k)) (S 1) (sT S) y), Z1) ∧ eqQ Z Z1
  | f, i, 0, _, _, hn, _, _ => by omega
  | 0, i, n + 1, Z, hf, _, h, hw => by
    obtain rfl : i = sT S := by omega
    have o1 := ok_sc ho
    have e := m259 (am := fun _ => true) (ky := fun t => -(sPl S t k)) h ho (fun o hq _ => by have := pl_bd ho hq k; omega) (fun o hq => ⟨by rw [if_pos rfl]; exact (hw o hq).1, fun _ => (hw o hq).2⟩) hy
    rw [f260_order_h12]
    refine ⟨Z, ?_, eqQ_rf⟩
    simp (disch := omega) only [let_eq, mjBp_some, mjBd_some, n_0, n_1, n_2, n_3, n_4, n_5, n_6, n_7, n_8, n_9, n_10, n_11, n_12, n_13, n_16, n_20, n_21, n_22, n_23, n_30, n_31, n_32, n_40, n_41, n_42, n_43, n_45, n_48, n_50, n_51, n_52, n_57, n_59, n_60, n_61, n_62, n_63, n_72, n_97, n_99, n_100, n_108, n_120, n_122, n_123, n_125, n_127, n_180, n_255, n_400, n_700, n_999, n_9999, n_2000000, n_2147483647, i3_add, i3_sub, i3_mul, i3_neg, i3_div, max_i3, min_i3, i6_add, i6_sub, i6_mul, i6_neg, c_lt_t, c_lt_f, c_ge_t, c_ge_f, c_gt_t, c_gt_f, c_le_t, c_le_f, c_eq_t, c_eq_f, c_ne_t, c_ne_f, in_t, i3_ofNat, ↓reduceIte, or_true, true_or, or_false, false_or, and_true, true_and, and_false, false_and, decide_true, decide_false, Bool.false_eq_true, not_true_eq_false, not_false_eq_true, Bool.true_and, Bool.false_and, Bool.and_true, Bool.and_false, Bool.true_or, Bool.false_or, Bool.or_true, Bool.or_false, e3_t, e3_f, sw_t, sw_f, sj_t, sj_f, i36, lg6_lt, lg6_eq, lg6_gt, Int.add_sub_cancel, l_0, l_1, l_2, l_3, l_4, l_5, l_10, l_9999, m_T h, e]
  | f + 1, i, n + 1, Z, hf, hn, h, hw => by
    have o1 := ok_sc ho
    have hi : i < sT S := by omega
    have b1 := pl_bd ho hi k
    have q : eqQ Z (zSi Z 242 i (i3 1)) := eqQ_si (by omega)
    have q2 : eqQ Z (zSi (zSi Z 242 i (i3 1)) 241 i (i3 (-(sPl S i k)))) := eqQ_tr q (eqQ_si (by omega))
    obtain ⟨Z1, h1, h2⟩ := m260h ho hk hy f (i + 1) n _ (by omega) (by omega) (mRep_q h q2) (fun o h1 => by
      by_cases q3 : o = i
      · subst q3; exact ⟨by rw [si_obj _ _ _ _ (by omega)]; exact si_same _ _ _ _, si_same _ _ _ _⟩
      · rw [si_fld _ _ _ _ (by omega), si_fld _ _ _ _ (by omega), si_fld _ _ _ _ (by omega), si_fld _ _ _ _ (by omega)]; exact hw o (by omega))
    refine ⟨Z1, ?_, eqQ_tr q2 h2⟩
    rw [f260_order_h12]
    simp (disch := omega) only [let_eq, mjBp_some, mjBd_some, n_0, n_1, n_2, n_3, n_4, n_5, n_6, n_7, n_8, n_9, n_10, n_11, n_12, n_13, n_16, n_20, n_21, n_22, n_23, n_30, n_31, n_32, n_40, n_41, n_42, n_43, n_45, n_48, n_50, n_51, n_52, n_57, n_59, n_60, n_61, n_62, n_63, n_72, n_97, n_99, n_100, n_108, n_120, n_122, n_123, n_125, n_127, n_180, n_255, n_400, n_700, n_999, n_9999, n_2000000, n_2147483647, i3_add, i3_sub, i3_mul, i3_neg, i3_div, max_i3, min_i3, i6_add, i6_sub, i6_mul, i6_neg, c_lt_t, c_lt_f, c_ge_t, c_ge_f, c_gt_t, c_gt_f, c_le_t, c_le_f, c_eq_t, c_eq_f, c_ne_t, c_ne_f, in_t, i3_ofNat, ↓reduceIte, or_true, true_or, or_false, false_or, and_true, true_and, and_false, false_and, decide_true, decide_false, Bool.false_eq_true, not_true_eq_false, not_false_eq_true, Bool.true_and, Bool.false_and, Bool.and_true, Bool.and_false, Bool.true_or, Bool.false_or, Bool.or_true, Bool.or_false, e3_t, e3_f, sw_t, sw_f, sj_t, sj_f, i36, lg6_lt, lg6_eq, lg6_gt, Int.add_sub_cancel, l_0, l_1, l_2, l_3, l_4, l_5, l_10, l_9999, m_T h, ix_nat, m249 (mRep_q h q) ho]
    exact h1
theorem q_order {Z Zm : mjZt} (hb : Z.2.2.1 = b) (h : cBk Z b S) (hd : cDr Z b S) (ho : okS S) (hm : mRep Zm S) (x y : Int32) : ∃ v Z1, f161_order x y Z = some (v, Z1) ∧ eqQ Z Z1 ∧ ∃ Z2, f260_order x y Zm = some (v, Z2) ∧ eqQ Zm Z2 := by
  have o1 := ok_sc ho
  unfold f161_order f260_order f98_kthAt
  rw [hb]
  obtain ⟨y, rfl, hy⟩ := i3_ex y
  rcases te_cases x with ⟨k, rfl, hk⟩ | ⟨k, rfl, hk⟩
  · obtain ⟨Z1, h1, h2⟩ := e98h ho hk hy 6 0 mjF Z (by omega) (by unfold mjF; omega) h hd (fun o h1 => by omega)
    obtain ⟨Z2, h3, h4⟩ := m260h ho hk hy (sT S) 0 mjF Zm (by omega) (by unfold mjF; omega) hm (fun o h1 => by omega)
    refine ⟨i3 (kTh (fun _ => true) (fun t => -(sPl S t k)) (S 1) (sT S) y), Z1, ?_, h2, Z2, ?_, h4⟩
    · simp (disch := omega) only [let_eq, mjBp_some, mjBd_some, n_0, n_1, n_2, n_3, n_4, n_5, n_6, n_7, n_8, n_9, n_10, n_11, n_12, n_13, n_16, n_20, n_21, n_22, n_23, n_30, n_31, n_32, n_40, n_41, n_42, n_43, n_45, n_48, n_50, n_51, n_52, n_57, n_59, n_60, n_61, n_62, n_63, n_72, n_97, n_99, n_100, n_108, n_120, n_122, n_123, n_125, n_127, n_180, n_255, n_400, n_700, n_999, n_9999, n_2000000, n_2147483647, i3_add, i3_sub, i3_mul, i3_neg, i3_div, max_i3, min_i3, i6_add, i6_sub, i6_mul, i6_neg, c_lt_t, c_lt_f, c_ge_t, c_ge_f, c_gt_t, c_gt_f, c_le_t, c_le_f, c_eq_t, c_eq_f, c_ne_t, c_ne_f, in_t, i3_ofNat, ↓reduceIte, or_true, true_or, or_false, false_or, and_true, true_and, and_false, false_and, decide_true, decide_false, Bool.false_eq_true, not_true_eq_false, not_false_eq_true, Bool.true_and, Bool.false_and, Bool.and_true, Bool.and_false, Bool.true_or, Bool.false_or, Bool.or_true, Bool.or_false, e3_t, e3_f, sw_t, sw_f, sj_t, sj_f, i36, lg6_lt, lg6_eq, lg6_gt, Int.add_sub_cancel, l_0, l_1, l_2, l_3, l_4, l_5, l_10, l_9999, e158t]
      rw [show i3 0 = i3 ((0 : Nat) : Int) from rfl, h1]
      rfl
    · simp (disch := omega) only [let_eq, mjBp_some, mjBd_some, n_0, n_1, n_2, n_3, n_4, n_5, n_6, n_7, n_8, n_9, n_10, n_11, n_12, n_13, n_16, n_20, n_21, n_22, n_23, n_30, n_31, n_32, n_40, n_41, n_42, n_43, n_45, n_48, n_50, n_51, n_52, n_57, n_59, n_60, n_61, n_62, n_63, n_72, n_97, n_99, n_100, n_108, n_120, n_122, n_123, n_125, n_127, n_180, n_255, n_400, n_700, n_999, n_9999, n_2000000, n_2147483647, i3_add, i3_sub, i3_mul, i3_neg, i3_div, max_i3, min_i3, i6_add, i6_sub, i6_mul, i6_neg, c_lt_t, c_lt_f, c_ge_t, c_ge_f, c_gt_t, c_gt_f, c_le_t, c_le_f, c_eq_t, c_eq_f, c_ne_t, c_ne_f, in_t, i3_ofNat, ↓reduceIte, or_true, true_or, or_false, false_or, and_true, true_and, and_false, false_and, decide_true, decide_false, Bool.false_eq_true, not_true_eq_false, not_false_eq_true, Bool.true_and, Bool.false_and, Bool.and_true, Bool.and_false, Bool.true_or, Bool.false_or, Bool.or_true, Bool.or_false, e3_t, e3_f, sw_t, sw_f, sj_t, sj_f, i36, lg6_lt, lg6_eq, lg6_gt, Int.add_sub_cancel, l_0, l_1, l_2, l_3, l_4, l_5, l_10, l_9999, m241t]
      rw [show i3 0 = i3 ((0 : Nat) : Int) from rfl, h3]
  · refine ⟨i3 (-1), Z, ?_, eqQ_rf, Zm, ?_, eqQ_rf⟩
    · simp (disch := omega) only [let_eq, mjBp_some, mjBd_some, n_0, n_1, n_2, n_3, n_4, n_5, n_6, n_7, n_8, n_9, n_10, n_11, n_12, n_13, n_16, n_20, n_21, n_22, n_23, n_30, n_31, n_32, n_40, n_41, n_42, n_43, n_45, n_48, n_50, n_51, n_52, n_57, n_59, n_60, n_61, n_62, n_63, n_72, n_97, n_99, n_100, n_108, n_120, n_122, n_123, n_125, n_127, n_180, n_255, n_400, n_700, n_999, n_9999, n_2000000, n_2147483647, i3_add, i3_sub, i3_mul, i3_neg, i3_div, max_i3, min_i3, i6_add, i6_sub, i6_mul, i6_neg, c_lt_t, c_lt_f, c_ge_t, c_ge_f, c_gt_t, c_gt_f, c_le_t, c_le_f, c_eq_t, c_eq_f, c_ne_t, c_ne_f, in_t, i3_ofNat, ↓reduceIte, or_true, true_or, or_false, false_or, and_true, true_and, and_false, false_and, decide_true, decide_false, Bool.false_eq_true, not_true_eq_false, not_false_eq_true, Bool.true_and, Bool.false_and, Bool.and_true, Bool.and_false, Bool.true_or, Bool.false_or, Bool.or_true, Bool.or_false, e3_t, e3_f, sw_t, sw_f, sj_t, sj_f, i36, lg6_lt, lg6_eq, lg6_gt, Int.add_sub_cancel, l_0, l_1, l_2, l_3, l_4, l_5, l_10, l_9999, e158f]
    · simp (disch := omega) only [let_eq, mjBp_some, mjBd_some, n_0, n_1, n_2, n_3, n_4, n_5, n_6, n_7, n_8, n_9, n_10, n_11, n_12, n_13, n_16, n_20, n_21, n_22, n_23, n_30, n_31, n_32, n_40, n_41, n_42, n_43, n_45, n_48, n_50, n_51, n_52, n_57, n_59, n_60, n_61, n_62, n_63, n_72, n_97, n_99, n_100, n_108, n_120, n_122, n_123, n_125, n_127, n_180, n_255, n_400, n_700, n_999, n_9999, n_2000000, n_2147483647, i3_add, i3_sub, i3_mul, i3_neg, i3_div, max_i3, min_i3, i6_add, i6_sub, i6_mul, i6_neg, c_lt_t, c_lt_f, c_ge_t, c_ge_f, c_gt_t, c_gt_f, c_le_t, c_le_f, c_eq_t, c_eq_f, c_ne_t, c_ne_f, in_t, i3_ofNat, ↓reduceIte, or_true, true_or, or_false, false_or, and_true, true_and, and_false, false_and, decide_true, decide_false, Bool.false_eq_true, not_true_eq_false, not_false_eq_true, Bool.true_and, Bool.false_and, Bool.and_true, Bool.and_false, Bool.true_or, Bool.false_or, Bool.or_true, Bool.or_false, e3_t, e3_f, sw_t, sw_f, sj_t, sj_f, i36, lg6_lt, lg6_eq, lg6_gt, Int.add_sub_cancel, l_0, l_1, l_2, l_3, l_4, l_5, l_10, l_9999, m241f]
/-- cutIn -/
theorem e105h (ho : okS S) {p y : Int} (hp : p = 10 * (S 0 1 + S 0 4)) (hy : -2147483648 ≤ y ∧ y ≤ 2147483647) : ∀ f i n (Z : mjZt), i + f = 6 → f < n → cBk Z b S → cDr Z b S → (∀ o, o < i → o < sT S → Z.1 189 o = i3 (if decide (sAr S o p ≠ -2) = true then sAr S o p else 2147483647)) → ∃ Z1, f105_kthToCut_h2 n b (i3 y) (i3 i) Z = some (i3 (kTh (fun t => decide (sAr S t p ≠ -2)) (fun t => sAr S t p) (S 1) (sT S) y), Z1) ∧ eqQ Z Z1
  | f, i, 0, _, _, hn, _, _, _ => by omega
  | 0, i, n + 1, Z, hf, _, h, hd, hw => by
    obtain rfl : i = 6 := by omega
    have o1 := ok_sc ho
    have e := e44 (K := 189) (am := fun t => decide (sAr S t p ≠ -2)) (ky := fun t => sAr S t p) h ho rfl rfl (fun o hq => by have := ar_bd ho hq p; omega) (fun o hq => hw o (by omega) hq) hy
    rw [f105_kthToCut_h2]
    refine ⟨Z, ?_, eqQ_rf⟩
    simp (disch := omega) only [let_eq, mjBp_some, mjBd_some, n_0, n_1, n_2, n_3, n_4, n_5, n_6, n_7, n_8, n_9, n_10, n_11, n_12, n_13, n_16, n_20, n_21, n_22, n_23, n_30, n_31, n_32, n_40, n_41, n_42, n_43, n_45, n_48, n_50, n_51, n_52, n_57, n_59, n_60, n_61, n_62, n_63, n_72, n_97, n_99, n_100, n_108, n_120, n_122, n_123, n_125, n_127, n_180, n_255, n_400, n_700, n_999, n_9999, n_2000000, n_2147483647, i3_add, i3_sub, i3_mul, i3_neg, i3_div, max_i3, min_i3, i6_add, i6_sub, i6_mul, i6_neg, c_lt_t, c_lt_f, c_ge_t, c_ge_f, c_gt_t, c_gt_f, c_le_t, c_le_f, c_eq_t, c_eq_f, c_ne_t, c_ne_f, in_t, i3_ofNat, ↓reduceIte, or_true, true_or, or_false, false_or, and_true, true_and, and_false, false_and, decide_true, decide_false, Bool.false_eq_true, not_true_eq_false, not_false_eq_true, Bool.true_and, Bool.false_and, Bool.and_true, Bool.and_false, Bool.true_or, Bool.false_or, Bool.or_true, Bool.or_false, e3_t, e3_f, sw_t, sw_f, sj_t, sj_f, i36, lg6_lt, lg6_eq, lg6_gt, Int.add_sub_cancel, l_0, l_1, l_2, l_3, l_4, l_5, l_10, l_9999, is_b (b_b h), e]
  | f + 1, i, n + 1, Z, hf, hn, h, hd, hw => by
    have o1 := ok_sc ho
    have o4 := ok_tr ho
    have hb := b_b h
    have ep : (S 0 1 + S 0 4) * 10 = p := by rw [hp, Int.mul_comm]
    rw [f105_kthToCut_h2]
    by_cases hi : i < sT S
    · have b1 := ar_bd ho hi p
      by_cases hq : sAr S i p = -2
      · have q : eqQ Z (zSi Z 189 i (i3 2147483647)) := eqQ_si (by omega)
        obtain ⟨Z1, h1, h2⟩ := e105h ho hp hy f (i + 1) n _ (by omega) (by omega) (cBk_q ho h q) (cDr_q ho hb hd q) (fun o h1 h2 => by
          by_cases q3 : o = i
          · subst q3; rw [si_same, hq]; rfl
          · rw [si_fld _ _ _ _ (by omega)]; exact hw o (by omega) h2)
        refine ⟨Z1, ?_, eqQ_tr q h2⟩
        simp (disch := omega) only [let_eq, mjBp_some, mjBd_some, n_0, n_1, n_2, n_3, n_4, n_5, n_6, n_7, n_8, n_9, n_10, n_11, n_12, n_13, n_16, n_20, n_21, n_22, n_23, n_30, n_31, n_32, n_40, n_41, n_42, n_43, n_45, n_48, n_50, n_51, n_52, n_57, n_59, n_60, n_61, n_62, n_63, n_72, n_97, n_99, n_100, n_108, n_120, n_122, n_123, n_125, n_127, n_180, n_255, n_400, n_700, n_999, n_9999, n_2000000, n_2147483647, i3_add, i3_sub, i3_mul, i3_neg, i3_div, max_i3, min_i3, i6_add, i6_sub, i6_mul, i6_neg, c_lt_t, c_lt_f, c_ge_t, c_ge_f, c_gt_t, c_gt_f, c_le_t, c_le_f, c_eq_t, c_eq_f, c_ne_t, c_ne_f, in_t, i3_ofNat, ↓reduceIte, or_true, true_or, or_false, false_or, and_true, true_and, and_false, false_and, decide_true, decide_false, Bool.false_eq_true, not_true_eq_false, not_false_eq_true, Bool.true_and, Bool.false_and, Bool.and_true, Bool.and_false, Bool.true_or, Bool.false_or, Bool.or_true, Bool.or_false, e3_t, e3_f, sw_t, sw_f, sj_t, sj_f, i36, lg6_lt, lg6_eq, lg6_gt, Int.add_sub_cancel, l_0, l_1, l_2, l_3, l_4, l_5, l_10, l_9999, is_b (b_b h), e8 h ho, is_tm hb, b_tr1 h, b_tr4 h, ep, e104 h hd ho, ix_nat]
        exact h1
      · have q : eqQ Z (zSi Z 189 i (i3 (sAr S i p))) := eqQ_si (by omega)
        obtain ⟨Z1, h1, h2⟩ := e105h ho hp hy f (i + 1) n _ (by omega) (by omega) (cBk_q ho h q) (cDr_q ho hb hd q) (fun o h1 h2 => by
          by_cases q3 : o = i
          · subst q3; rw [si_same, if_pos (by simpa using hq)]
          · rw [si_fld _ _ _ _ (by omega)]; exact hw o (by omega) h2)
        refine ⟨Z1, ?_, eqQ_tr q h2⟩
        simp (disch := omega) only [let_eq, mjBp_some, mjBd_some, n_0, n_1, n_2, n_3, n_4, n_5, n_6, n_7, n_8, n_9, n_10, n_11, n_12, n_13, n_16, n_20, n_21, n_22, n_23, n_30, n_31, n_32, n_40, n_41, n_42, n_43, n_45, n_48, n_50, n_51, n_52, n_57, n_59, n_60, n_61, n_62, n_63, n_72, n_97, n_99, n_100, n_108, n_120, n_122, n_123, n_125, n_127, n_180, n_255, n_400, n_700, n_999, n_9999, n_2000000, n_2147483647, i3_add, i3_sub, i3_mul, i3_neg, i3_div, max_i3, min_i3, i6_add, i6_sub, i6_mul, i6_neg, c_lt_t, c_lt_f, c_ge_t, c_ge_f, c_gt_t, c_gt_f, c_le_t, c_le_f, c_eq_t, c_eq_f, c_ne_t, c_ne_f, in_t, i3_ofNat, ↓reduceIte, or_true, true_or, or_false, false_or, and_true, true_and, and_false, false_and, decide_true, decide_false, Bool.false_eq_true, not_true_eq_false, not_false_eq_true, Bool.true_and, Bool.false_and, Bool.and_true, Bool.and_false, Bool.true_or, Bool.false_or, Bool.or_true, Bool.or_false, e3_t, e3_f, sw_t, sw_f, sj_t, sj_f, i36, lg6_lt, lg6_eq, lg6_gt, Int.add_sub_cancel, l_0, l_1, l_2, l_3, l_4, l_5, l_10, l_9999, is_b (b_b h), e8 h ho, is_tm hb, b_tr1 h, b_tr4 h, ep, e104 h hd ho, ix_nat]
        exact h1
    · by_cases hq : p ≤ 0
      · have q : eqQ Z (zSi Z 189 i (i3 0)) := eqQ_si (by omega)
        obtain ⟨Z1, h1, h2⟩ := e105h ho hp hy f (i + 1) n _ (by omega) (by omega) (cBk_q ho h q) (cDr_q ho hb hd q) (fun o h1 h2 => by
          rw [si_fld _ _ _ _ (by omega)]; exact hw o (by omega) h2)
        refine ⟨Z1, ?_, eqQ_tr q h2⟩
        simp (disch := omega) only [let_eq, mjBp_some, mjBd_some, n_0, n_1, n_2, n_3, n_4, n_5, n_6, n_7, n_8, n_9, n_10, n_11, n_12, n_13, n_16, n_20, n_21, n_22, n_23, n_30, n_31, n_32, n_40, n_41, n_42, n_43, n_45, n_48, n_50, n_51, n_52, n_57, n_59, n_60, n_61, n_62, n_63, n_72, n_97, n_99, n_100, n_108, n_120, n_122, n_123, n_125, n_127, n_180, n_255, n_400, n_700, n_999, n_9999, n_2000000, n_2147483647, i3_add, i3_sub, i3_mul, i3_neg, i3_div, max_i3, min_i3, i6_add, i6_sub, i6_mul, i6_neg, c_lt_t, c_lt_f, c_ge_t, c_ge_f, c_gt_t, c_gt_f, c_le_t, c_le_f, c_eq_t, c_eq_f, c_ne_t, c_ne_f, in_t, i3_ofNat, ↓reduceIte, or_true, true_or, or_false, false_or, and_true, true_and, and_false, false_and, decide_true, decide_false, Bool.false_eq_true, not_true_eq_false, not_false_eq_true, Bool.true_and, Bool.false_and, Bool.and_true, Bool.and_false, Bool.true_or, Bool.false_or, Bool.or_true, Bool.or_false, e3_t, e3_f, sw_t, sw_f, sj_t, sj_f, i36, lg6_lt, lg6_eq, lg6_gt, Int.add_sub_cancel, l_0, l_1, l_2, l_3, l_4, l_5, l_10, l_9999, is_b (b_b h), e8n h ho, is_b12 hb, b_tr1 h, b_tr4 h, ep, e104n h, if_pos hq, ix_nat]
        exact h1
      · have q : eqQ Z (zSi Z 189 i (i3 2147483647)) := eqQ_si (by omega)
        obtain ⟨Z1, h1, h2⟩ := e105h ho hp hy f (i + 1) n _ (by omega) (by omega) (cBk_q ho h q) (cDr_q ho hb hd q) (fun o h1 h2 => by
          rw [si_fld _ _ _ _ (by omega)]; exact hw o (by omega) h2)
        refine ⟨Z1, ?_, eqQ_tr q h2⟩
        simp (disch := omega) only [let_eq, mjBp_some, mjBd_some, n_0, n_1, n_2, n_3, n_4, n_5, n_6, n_7, n_8, n_9, n_10, n_11, n_12, n_13, n_16, n_20, n_21, n_22, n_23, n_30, n_31, n_32, n_40, n_41, n_42, n_43, n_45, n_48, n_50, n_51, n_52, n_57, n_59, n_60, n_61, n_62, n_63, n_72, n_97, n_99, n_100, n_108, n_120, n_122, n_123, n_125, n_127, n_180, n_255, n_400, n_700, n_999, n_9999, n_2000000, n_2147483647, i3_add, i3_sub, i3_mul, i3_neg, i3_div, max_i3, min_i3, i6_add, i6_sub, i6_mul, i6_neg, c_lt_t, c_lt_f, c_ge_t, c_ge_f, c_gt_t, c_gt_f, c_le_t, c_le_f, c_eq_t, c_eq_f, c_ne_t, c_ne_f, in_t, i3_ofNat, ↓reduceIte, or_true, true_or, or_false, false_or, and_true, true_and, and_false, false_and, decide_true, decide_false, Bool.false_eq_true, not_true_eq_false, not_false_eq_true, Bool.true_and, Bool.false_and, Bool.and_true, Bool.and_false, Bool.true_or, Bool.false_or, Bool.or_true, Bool.or_false, e3_t, e3_f, sw_t, sw_f, sj_t, sj_f, i36, lg6_lt, lg6_eq, lg6_gt, Int.add_sub_cancel, l_0, l_1, l_2, l_3, l_4, l_5, l_10, l_9999, is_b (b_b h), e8n h ho, is_b12 hb, b_tr1 h, b_tr4 h, ep, e104n h, if_neg hq, ix_nat]
        exact h1
theorem m263h (ho : okS S) {p y : Int} (hp : p = 10 * (S 0 1 + S 0 4)) (hy : -2147483648 ≤ y ∧ y ≤ 2147483647) {am : Nat → Bool} (ham : am = fun t => decide (S 0 4 ≠ 0 ∧ sAr S t p ≠ -2)) : ∀ f i n (Z : mjZt), i + f = sT S → f < n → mRep Z S → (∀ o, o < i → Z.1 242 o = i3 (if am o = true then 1 else 0) ∧ (am o = true → Z.1 241 o = i3 (sAr S o p))) → ∃ Z1, f263_cutIn_h2 n (i3 y) (i3 i) Z = some (i3 (kTh am (fun t => sAr S t p) (S 1) (sT S) y), Z1) ∧ eqQ Z Z1
  | f, i, 0, _, _, hn, _, _ => by omega
  | 0, i, n + 1, Z, hf, _, h, hw => by
    obtain rfl : i = sT S := by omega
    have o1 := ok_sc ho
    have e := m259 (am := am) (ky := fun t => sAr S t p) h ho (fun o hq _ => by have := ar_bd ho hq p; omega) (fun o hq => hw o hq) hy
    rw [f263_cutIn_h2]
    refine ⟨Z, ?_, eqQ_rf⟩
    simp (disch := omega) only [let_eq, mjBp_some, mjBd_some, n_0, n_1, n_2, n_3, n_4, n_5, n_6, n_7, n_8, n_9, n_10, n_11, n_12, n_13, n_16, n_20, n_21, n_22, n_23, n_30, n_31, n_32, n_40, n_41, n_42, n_43, n_45, n_48, n_50, n_51, n_52, n_57, n_59, n_60, n_61, n_62, n_63, n_72, n_97, n_99, n_100, n_108, n_120, n_122, n_123, n_125, n_127, n_180, n_255, n_400, n_700, n_999, n_9999, n_2000000, n_2147483647, i3_add, i3_sub, i3_mul, i3_neg, i3_div, max_i3, min_i3, i6_add, i6_sub, i6_mul, i6_neg, c_lt_t, c_lt_f, c_ge_t, c_ge_f, c_gt_t, c_gt_f, c_le_t, c_le_f, c_eq_t, c_eq_f, c_ne_t, c_ne_f, in_t, i3_ofNat, ↓reduceIte, or_true, true_or, or_false, false_or, and_true, true_and, and_false, false_and, decide_true, decide_false, Bool.false_eq_true, not_true_eq_false, not_false_eq_true, Bool.true_and, Bool.false_and, Bool.and_true, Bool.and_false, Bool.true_or, Bool.false_or, Bool.or_true, Bool.or_false, e3_t, e3_f, sw_t, sw_f, sj_t, sj_f, i36, lg6_lt, lg6_eq, lg6_gt, Int.add_sub_cancel, l_0, l_1, l_2, l_3, l_4, l_5, l_10, l_9999, m_T h, e]
  | f + 1, i, n + 1, Z, hf, hn, h, hw => by
    have o1 := ok_sc ho
    have o4 := ok_tr ho
    have hi : i < sT S := by omega
    have b1 := ar_bd ho hi p
    rw [f263_cutIn_h2]
    unfold f263_cutIn_j50
    have go : ∀ (v : Int) (w : Int), (am i = true → v = sAr S i p) → w = (if am i = true then 1 else 0) → ∃ Z1, f263_cutIn_h2 n (i3 y) (i3 ((i : Int) + 1)) (zSi (zSi Z 241 i (i3 v)) 242 i (i3 w)) = some (i3 (kTh am (fun t => sAr S t p) (S 1) (sT S) y), Z1) ∧ eqQ Z Z1 := by
      intro v w hv hw2
      have q2 : eqQ Z (zSi (zSi Z 241 i (i3 v)) 242 i (i3 w)) := eqQ_tr (eqQ_si (by omega)) (eqQ_si (by omega))
      obtain ⟨Z1, h1, h2⟩ := m263h ho hp hy ham f (i + 1) n _ (by omega) (by omega) (mRep_q h q2) (fun o h1 => by
        by_cases q3 : o = i
        · subst q3; exact ⟨by rw [si_same, hw2], fun q4 => by rw [si_obj _ _ _ _ (by omega), si_same, hv q4]⟩
        · rw [si_fld _ _ _ _ (by omega), si_fld _ _ _ _ (by omega), si_fld _ _ _ _ (by omega), si_fld _ _ _ _ (by omega)]; exact hw o (by omega))
      exact ⟨Z1, h1, eqQ_tr q2 h2⟩
    by_cases hc : S 0 4 = 0
    · have ha : am i = false := by rw [ham]; simp [hc]
      obtain ⟨Z1, h1, h2⟩ := go (-2) 0 (fun q => by rw [ha] at q; cases q) (by rw [ha]; rfl)
      refine ⟨Z1, ?_, h2⟩
      simp (disch := omega) only [let_eq, mjBp_some, mjBd_some, n_0, n_1, n_2, n_3, n_4, n_5, n_6, n_7, n_8, n_9, n_10, n_11, n_12, n_13, n_16, n_20, n_21, n_22, n_23, n_30, n_31, n_32, n_40, n_41, n_42, n_43, n_45, n_48, n_50, n_51, n_52, n_57, n_59, n_60, n_61, n_62, n_63, n_72, n_97, n_99, n_100, n_108, n_120, n_122, n_123, n_125, n_127, n_180, n_255, n_400, n_700, n_999, n_9999, n_2000000, n_2147483647, i3_add, i3_sub, i3_mul, i3_neg, i3_div, max_i3, min_i3, i6_add, i6_sub, i6_mul, i6_neg, c_lt_t, c_lt_f, c_ge_t, c_ge_f, c_gt_t, c_gt_f, c_le_t, c_le_f, c_eq_t, c_eq_f, c_ne_t, c_ne_f, in_t, i3_ofNat, ↓reduceIte, or_true, true_or, or_false, false_or, and_true, true_and, and_false, false_and, decide_true, decide_false, Bool.false_eq_true, not_true_eq_false, not_false_eq_true, Bool.true_and, Bool.false_and, Bool.and_true, Bool.and_false, Bool.true_or, Bool.false_or, Bool.or_true, Bool.or_false, e3_t, e3_f, sw_t, sw_f, sj_t, sj_f, i36, lg6_lt, lg6_eq, lg6_gt, Int.add_sub_cancel, l_0, l_1, l_2, l_3, l_4, l_5, l_10, l_9999, m_T h, m_tr h, ix_nat, si_same]
      exact h1
    · by_cases hq : sAr S i p = -2
      · have ha : am i = false := by rw [ham]; simp [hq]
        obtain ⟨Z1, h1, h2⟩ := go (sAr S i p) 0 (fun _ => rfl) (by rw [ha]; rfl)
        refine ⟨Z1, ?_, h2⟩
        simp (disch := omega) only [let_eq, mjBp_some, mjBd_some, n_0, n_1, n_2, n_3, n_4, n_5, n_6, n_7, n_8, n_9, n_10, n_11, n_12, n_13, n_16, n_20, n_21, n_22, n_23, n_30, n_31, n_32, n_40, n_41, n_42, n_43, n_45, n_48, n_50, n_51, n_52, n_57, n_59, n_60, n_61, n_62, n_63, n_72, n_97, n_99, n_100, n_108, n_120, n_122, n_123, n_125, n_127, n_180, n_255, n_400, n_700, n_999, n_9999, n_2000000, n_2147483647, i3_add, i3_sub, i3_mul, i3_neg, i3_div, max_i3, min_i3, i6_add, i6_sub, i6_mul, i6_neg, c_lt_t, c_lt_f, c_ge_t, c_ge_f, c_gt_t, c_gt_f, c_le_t, c_le_f, c_eq_t, c_eq_f, c_ne_t, c_ne_f, in_t, i3_ofNat, ↓reduceIte, or_true, true_or, or_false, false_or, and_true, true_and, and_false, false_and, decide_true, decide_false, Bool.false_eq_true, not_true_eq_false, not_false_eq_true, Bool.true_and, Bool.false_and, Bool.and_true, Bool.and_false, Bool.true_or, Bool.false_or, Bool.or_true, Bool.or_false, e3_t, e3_f, sw_t, sw_f, sj_t, sj_f, i36, lg6_lt, lg6_eq, lg6_gt, Int.add_sub_cancel, l_0, l_1, l_2, l_3, l_4, l_5, l_10, l_9999, m_T h, m_tr h, ix_nat, si_same, ← hp, m257 h ho]
        exact h1
      · have ha : am i = true := by rw [ham]; simp [hq, hc]
        obtain ⟨Z1, h1, h2⟩ := go (sAr S i p) 1 (fun _ => rfl) (by rw [ha]; rfl)
        refine ⟨Z1, ?_, h2⟩
        simp (disch := omega) only [let_eq, mjBp_some, mjBd_some, n_0, n_1, n_2, n_3, n_4, n_5, n_6, n_7, n_8, n_9, n_10, n_11, n_12, n_13, n_16, n_20, n_21, n_22, n_23, n_30, n_31, n_32, n_40, n_41, n_42, n_43, n_45, n_48, n_50, n_51, n_52, n_57, n_59, n_60, n_61, n_62, n_63, n_72, n_97, n_99, n_100, n_108, n_120, n_122, n_123, n_125, n_127, n_180, n_255, n_400, n_700, n_999, n_9999, n_2000000, n_2147483647, i3_add, i3_sub, i3_mul, i3_neg, i3_div, max_i3, min_i3, i6_add, i6_sub, i6_mul, i6_neg, c_lt_t, c_lt_f, c_ge_t, c_ge_f, c_gt_t, c_gt_f, c_le_t, c_le_f, c_eq_t, c_eq_f, c_ne_t, c_ne_f, in_t, i3_ofNat, ↓reduceIte, or_true, true_or, or_false, false_or, and_true, true_and, and_false, false_and, decide_true, decide_false, Bool.false_eq_true, not_true_eq_false, not_false_eq_true, Bool.true_and, Bool.false_and, Bool.and_true, Bool.and_false, Bool.true_or, Bool.false_or, Bool.or_true, Bool.or_false, e3_t, e3_f, sw_t, sw_f, sj_t, sj_f, i36, lg6_lt, lg6_eq, lg6_gt, Int.add_sub_cancel, l_0, l_1, l_2, l_3, l_4, l_5, l_10, l_9999, m_T h, m_tr h, ix_nat, si_same, ← hp, m257 h ho]
        exact h1
theorem q_cutIn {Z Zm : mjZt} (hb : Z.2.2.1 = b) (h : cBk Z b S) (hd : cDr Z b S) (ho : okS S) (hm : mRep Zm S) (y : Int32) : ∃ v Z1, f164_cutIn y Z = some (v, Z1) ∧ eqQ Z Z1 ∧ ∃ Z2, f263_cutIn y Zm = some (v, Z2) ∧ eqQ Zm Z2 := by
  have o1 := ok_sc ho
  have o4 := ok_tr ho
  unfold f164_cutIn f263_cutIn f105_kthToCut
  rw [hb]
  obtain ⟨y, rfl, hy⟩ := i3_ex y
  obtain ⟨Z2, h3, h4⟩ := m263h ho rfl hy rfl (sT S) 0 mjF Zm (by omega) (by unfold mjF; omega) hm (fun o h1 => by omega)
  by_cases hc : S 0 4 = 0
  · have e : kTh (fun t => decide (S 0 4 ≠ 0 ∧ sAr S t (10 * (S 0 1 + S 0 4)) ≠ -2)) (fun t => sAr S t (10 * (S 0 1 + S 0 4))) (S 1) (sT S) y = -1 := fI_none _ _ (fun i _ _ => by simp [hc])
    rw [e] at h3
    refine ⟨i3 (-1), Z, ?_, eqQ_rf, Z2, h3, h4⟩
    simp (disch := omega) only [let_eq, mjBp_some, mjBd_some, n_0, n_1, n_2, n_3, n_4, n_5, n_6, n_7, n_8, n_9, n_10, n_11, n_12, n_13, n_16, n_20, n_21, n_22, n_23, n_30, n_31, n_32, n_40, n_41, n_42, n_43, n_45, n_48, n_50, n_51, n_52, n_57, n_59, n_60, n_61, n_62, n_63, n_72, n_97, n_99, n_100, n_108, n_120, n_122, n_123, n_125, n_127, n_180, n_255, n_400, n_700, n_999, n_9999, n_2000000, n_2147483647, i3_add, i3_sub, i3_mul, i3_neg, i3_div, max_i3, min_i3, i6_add, i6_sub, i6_mul, i6_neg, c_lt_t, c_lt_f, c_ge_t, c_ge_f, c_gt_t, c_gt_f, c_le_t, c_le_f, c_eq_t, c_eq_f, c_ne_t, c_ne_f, in_t, i3_ofNat, ↓reduceIte, or_true, true_or, or_false, false_or, and_true, true_and, and_false, false_and, decide_true, decide_false, Bool.false_eq_true, not_true_eq_false, not_false_eq_true, Bool.true_and, Bool.false_and, Bool.and_true, Bool.and_false, Bool.true_or, Bool.false_or, Bool.or_true, Bool.or_false, e3_t, e3_f, sw_t, sw_f, sj_t, sj_f, i36, lg6_lt, lg6_eq, lg6_gt, Int.add_sub_cancel, l_0, l_1, l_2, l_3, l_4, l_5, l_10, l_9999, is_b (b_b h), b_tr4 h]
  · obtain ⟨Z1, h1, h2⟩ := e105h ho rfl hy 6 0 mjF Z (by omega) (by unfold mjF; omega) h hd (fun o h1 => by omega)
    refine ⟨i3 (kTh (fun t => decide (S 0 4 ≠ 0 ∧ sAr S t (10 * (S 0 1 + S 0 4)) ≠ -2)) (fun t => sAr S t (10 * (S 0 1 + S 0 4))) (S 1) (sT S) y), Z1, ?_, h2, Z2, h3, h4⟩
    · simp (disch := omega) only [let_eq, mjBp_some, mjBd_some, n_0, n_1, n_2, n_3, n_4, n_5, n_6, n_7, n_8, n_9, n_10, n_11, n_12, n_13, n_16, n_20, n_21, n_22, n_23, n_30, n_31, n_32, n_40, n_41, n_42, n_43, n_45, n_48, n_50, n_51, n_52, n_57, n_59, n_60, n_61, n_62, n_63, n_72, n_97, n_99, n_100, n_108, n_120, n_122, n_123, n_125, n_127, n_180, n_255, n_400, n_700, n_999, n_9999, n_2000000, n_2147483647, i3_add, i3_sub, i3_mul, i3_neg, i3_div, max_i3, min_i3, i6_add, i6_sub, i6_mul, i6_neg, c_lt_t, c_lt_f, c_ge_t, c_ge_f, c_gt_t, c_gt_f, c_le_t, c_le_f, c_eq_t, c_eq_f, c_ne_t, c_ne_f, in_t, i3_ofNat, ↓reduceIte, or_true, true_or, or_false, false_or, and_true, true_and, and_false, false_and, decide_true, decide_false, Bool.false_eq_true, not_true_eq_false, not_false_eq_true, Bool.true_and, Bool.false_and, Bool.and_true, Bool.and_false, Bool.true_or, Bool.false_or, Bool.or_true, Bool.or_false, e3_t, e3_f, sw_t, sw_f, sj_t, sj_f, i36, lg6_lt, lg6_eq, lg6_gt, Int.add_sub_cancel, l_0, l_1, l_2, l_3, l_4, l_5, l_10, l_9999, is_b (b_b h), b_tr4 h]
      rw [show i3 0 = i3 ((0 : Nat) : Int) from rfl, h1, mjBd_some]
      congr 3
      refine kTh_congr (fun t _ => ?_) (fun _ _ _ => rfl)
      simp [hc]
end Q2
