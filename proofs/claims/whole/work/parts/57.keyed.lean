/-! WHAT A QUERY LEAVES AS IT WAS; TEAMS BY KEYS -/
def scr (a : Nat) : Prop := a = 189 ∨ (191 ≤ a ∧ a ≤ 198) ∨ (204 ≤ a ∧ a ≤ 208) ∨ (241 ≤ a ∧ a ≤ 250)
def eqQ (Z Z2 : mjZt) : Prop := Z2.2.2 = Z.2.2 ∧ (∀ a, ¬ scr a → a ≠ 211 → Z2.1 a = Z.1 a ∧ Z2.2.1 a = Z.2.1 a) ∧ (∀ f, f < 65 → Z2.1 211 f = Z.1 211 f) ∧ Z2.2.1 211 = Z.2.1 211
theorem eqQ_rf {Z : mjZt} : eqQ Z Z := ⟨rfl, fun _ _ _ => ⟨rfl, rfl⟩, fun _ _ => rfl, rfl⟩
theorem eqQ_tr {Z Z2 Z3 : mjZt} (h : eqQ Z Z2) (g : eqQ Z2 Z3) : eqQ Z Z3 := ⟨g.1.trans h.1, fun a h1 h2 => ⟨(g.2.1 a h1 h2).1.trans (h.2.1 a h1 h2).1, (g.2.1 a h1 h2).2.trans (h.2.1 a h1 h2).2⟩, fun f h1 => (g.2.2.1 f h1).trans (h.2.2.1 f h1), g.2.2.2.trans h.2.2.2⟩
theorem eqQ_si {Z : mjZt} {a k : Nat} {v : Int32} (h : (a = 189 ∨ (191 ≤ a ∧ a ≤ 198) ∨ (204 ≤ a ∧ a ≤ 208) ∨ (241 ≤ a ∧ a ≤ 250)) ∨ (a = 211 ∧ 65 ≤ k)) : eqQ Z (zSi Z a k v) :=
  ⟨rfl, fun a2 h1 h2 => ⟨si_obj Z a k v (by unfold scr at h1; omega), rfl⟩, fun f h1 => si_fld Z a k v (by omega), rfl⟩
theorem eqQ_sl {Z : mjZt} {a k : Nat} {v : Int64} (h : (a = 189 ∨ (191 ≤ a ∧ a ≤ 198) ∨ (204 ≤ a ∧ a ≤ 208) ∨ (241 ≤ a ∧ a ≤ 250))) : eqQ Z (zSl Z a k v) :=
  ⟨rfl, fun a2 h1 h2 => ⟨rfl, sl_obj Z a k v (by unfold scr at h1; omega)⟩, fun f h1 => rfl, sl_obj Z a k v (by omega)⟩
theorem eqQ_M {Z Z2 : mjZt} (h : eqQ Z Z2) : eqM Z Z2 := ⟨fun a ha => h.2.1 a (by unfold scr; omega) (by omega), fun f h1 h2 => h.2.2.1 f (by omega)⟩
theorem eqQ_B {Z Z2 : mjZt} {b : Nat} (hb : b = 2 ∨ b = 92) (h : eqQ Z Z2) : eqB b Z Z2 := fun a h1 h2 => h.2.1 a (by unfold scr; omega) (by omega)
theorem mRep_q {Z Z2 : mjZt} {S : mjS} (h : mRep Z S) (e : eqQ Z Z2) : mRep Z2 S := mRep_of h (eqQ_M e)
theorem cBk_q {Z Z2 : mjZt} {S : mjS} {b : Nat} (ho : okS S) (h : cBk Z b S) (e : eqQ Z Z2) : cBk Z2 b S := cBk_of ⟨(ok_sc ho).1, (ok_sc ho).2.1⟩ h (eqQ_B (b_b h) e)
theorem cDr_q {Z Z2 : mjZt} {S : mjS} {b : Nat} (ho : okS S) (hb : b = 2 ∨ b = 92) (h : cDr Z b S) (e : eqQ Z Z2) : cDr Z2 b S := cDr_of ⟨(ok_sc ho).1, all_le ho⟩ h (eqQ_B hb e)
/-- of those among them, by key, of like ones by lane -/
def kP (am : Nat → Bool) (ky ln : Nat → Int) (t o : Nat) : Bool := am o && (decide (ky o < ky t) || (decide (ky o = ky t) && decide (ln o < ln t)))
def kTh (am : Nat → Bool) (ky ln : Nat → Int) (T : Nat) (k : Int) : Int := fI (fun t => am t && decide (cN (kP am ky ln t) T = k)) T 0
theorem kTh_congr {am am2 : Nat → Bool} {ky ky2 ln : Nat → Int} {T : Nat} {k : Int} (h1 : ∀ t, t < T → am t = am2 t) (h2 : ∀ t, t < T → am t = true → ky t = ky2 t) : kTh am ky ln T k = kTh am2 ky2 ln T k := by
  unfold kTh
  refine fI_congr T 0 (fun t _ ht => ?_)
  rw [h1 t (by omega)]
  cases q : am2 t with
  | false => rfl
  | true =>
    have q2 : am t = true := by rw [h1 t (by omega), q]
    rw [cN_congr (q := kP am2 ky2 ln t) T (fun o ho => ?_)]
    unfold kP
    rw [h1 o ho, h2 t (by omega) q2]
    cases q3 : am2 o with
    | false => rfl
    | true => rw [h2 o ho (by rw [h1 o ho, q3])]
section KY
variable {Z : mjZt} {b : Nat} {S : mjS}
theorem e43h (h : cBk Z b S) (ho : okS S) {K : Nat} (hK : mjIs K 251 13 = true) (hK2 : (mjLay K).2 = 6) {am : Nat → Bool} {ky : Nat → Int} (hb : ∀ o, o < sT S → -2147483648 ≤ ky o ∧ ky o < 2147483647) (hk : ∀ o, o < sT S → Z.1 K o = i3 (if am o = true then ky o else 2147483647)) {t : Nat} (ht : t < sT S) : ∀ f i n, i + f = sT S → f < n → f43_teamsAhead_h12 n b K (i3 t) (i3 (ky t)) (i3 (cN (kP am ky (S 1) t) i)) (i3 i) Z = some (i3 (cN (kP am ky (S 1) t) (sT S)))
  | f, i, 0, _, hn => by omega
  | 0, i, n + 1, hf, _ => by
    obtain rfl : i = sT S := by omega
    have o1 := ok_sc ho
    rw [f43_teamsAhead_h12]
    simp (disch := omega) only [let_eq, mjBp_some, mjBd_some, n_0, n_1, n_2, n_3, n_4, n_5, n_6, n_7, n_8, n_9, n_10, n_11, n_12, n_13, n_16, n_20, n_21, n_22, n_23, n_30, n_31, n_32, n_40, n_41, n_42, n_43, n_45, n_48, n_50, n_51, n_52, n_57, n_59, n_60, n_61, n_62, n_63, n_72, n_97, n_99, n_100, n_108, n_120, n_122, n_123, n_125, n_127, n_180, n_255, n_400, n_700, n_999, n_9999, n_2000000, n_2147483647, i3_add, i3_sub, i3_mul, i3_neg, i3_div, max_i3, min_i3, c_lt_t, c_lt_f, c_ge_t, c_ge_f, c_gt_t, c_gt_f, c_le_t, c_le_f, c_eq_t, c_eq_f, c_ne_t, c_ne_f, in_t, ↓reduceIte, or_true, true_or, e3_t, e3_f, sw_t, sw_f, sj_t, sj_f, i36, lg6_lt, lg6_eq, lg6_gt, Int.add_sub_cancel, l_0, l_1, l_2, l_3, l_4, l_5, l_10, l_9999, is_b (b_b h), b_T h]
  | f + 1, i, n + 1, hf, hn => by
    have hi : i < sT S := by omega
    have o1 := ok_sc ho
    have o2 := ok_tm ho hi
    have o3 := ok_tm ho ht
    have c1 := hb i hi
    have c2 := hb t ht
    have ih := e43h h ho hK hK2 hb hk ht f (i + 1) n (by omega) (by omega)
    unfold sLn at o2 o3
    rw [f43_teamsAhead_h12]
    simp (disch := omega) only [let_eq, mjBp_some, mjBd_some, n_0, n_1, n_2, n_3, n_4, n_5, n_6, n_7, n_8, n_9, n_10, n_11, n_12, n_13, n_16, n_20, n_21, n_22, n_23, n_30, n_31, n_32, n_40, n_41, n_42, n_43, n_45, n_48, n_50, n_51, n_52, n_57, n_59, n_60, n_61, n_62, n_63, n_72, n_97, n_99, n_100, n_108, n_120, n_122, n_123, n_125, n_127, n_180, n_255, n_400, n_700, n_999, n_9999, n_2000000, n_2147483647, i3_add, i3_sub, i3_mul, i3_neg, i3_div, max_i3, min_i3, c_lt_t, c_lt_f, c_ge_t, c_ge_f, c_gt_t, c_gt_f, c_le_t, c_le_f, c_eq_t, c_eq_f, c_ne_t, c_ne_f, in_t, ↓reduceIte, or_true, true_or, e3_t, e3_f, sw_t, sw_f, sj_t, sj_f, i36, lg6_lt, lg6_eq, lg6_gt, Int.add_sub_cancel, l_0, l_1, l_2, l_3, l_4, l_5, l_10, l_9999, is_b (b_b h), b_T h, e5 hK hK2, Int.toNat_natCast, hk i hi]
    rw [cN] at ih
    cases q : am i with
    | false =>
      rw [show kP am ky (S 1) t i = false by simp [kP, q]] at ih
      simp only [Bool.false_eq_true, if_false, Int.add_zero] at ih
      simp (disch := omega) only [let_eq, mjBp_some, mjBd_some, n_0, n_1, n_2, n_3, n_4, n_5, n_6, n_7, n_8, n_9, n_10, n_11, n_12, n_13, n_16, n_20, n_21, n_22, n_23, n_30, n_31, n_32, n_40, n_41, n_42, n_43, n_45, n_48, n_50, n_51, n_52, n_57, n_59, n_60, n_61, n_62, n_63, n_72, n_97, n_99, n_100, n_108, n_120, n_122, n_123, n_125, n_127, n_180, n_255, n_400, n_700, n_999, n_9999, n_2000000, n_2147483647, i3_add, i3_sub, i3_mul, i3_neg, i3_div, max_i3, min_i3, c_lt_t, c_lt_f, c_ge_t, c_ge_f, c_gt_t, c_gt_f, c_le_t, c_le_f, c_eq_t, c_eq_f, c_ne_t, c_ne_f, in_t, ↓reduceIte, or_true, true_or, e3_t, e3_f, sw_t, sw_f, sj_t, sj_f, i36, lg6_lt, lg6_eq, lg6_gt, Int.add_sub_cancel, l_0, l_1, l_2, l_3, l_4, l_5, l_10, l_9999, Bool.false_eq_true, if_false]
      exact ih
    | true =>
      simp only [if_true]
      rcases Int.lt_trichotomy (ky i) (ky t) with q1 | q1 | q1
      · rw [show kP am ky (S 1) t i = true by simp [kP, q, q1]] at ih
        simp only [if_true] at ih
        simp (disch := omega) only [let_eq, mjBp_some, mjBd_some, n_0, n_1, n_2, n_3, n_4, n_5, n_6, n_7, n_8, n_9, n_10, n_11, n_12, n_13, n_16, n_20, n_21, n_22, n_23, n_30, n_31, n_32, n_40, n_41, n_42, n_43, n_45, n_48, n_50, n_51, n_52, n_57, n_59, n_60, n_61, n_62, n_63, n_72, n_97, n_99, n_100, n_108, n_120, n_122, n_123, n_125, n_127, n_180, n_255, n_400, n_700, n_999, n_9999, n_2000000, n_2147483647, i3_add, i3_sub, i3_mul, i3_neg, i3_div, max_i3, min_i3, c_lt_t, c_lt_f, c_ge_t, c_ge_f, c_gt_t, c_gt_f, c_le_t, c_le_f, c_eq_t, c_eq_f, c_ne_t, c_ne_f, in_t, ↓reduceIte, or_true, true_or, e3_t, e3_f, sw_t, sw_f, sj_t, sj_f, i36, lg6_lt, lg6_eq, lg6_gt, Int.add_sub_cancel, l_0, l_1, l_2, l_3, l_4, l_5, l_10, l_9999]
        exact ih
      · by_cases q2 : S 1 i < S 1 t
        · rw [show kP am ky (S 1) t i = true by simp [kP, q, q1, q2]] at ih
          simp only [if_true] at ih
          simp (disch := omega) only [let_eq, mjBp_some, mjBd_some, n_0, n_1, n_2, n_3, n_4, n_5, n_6, n_7, n_8, n_9, n_10, n_11, n_12, n_13, n_16, n_20, n_21, n_22, n_23, n_30, n_31, n_32, n_40, n_41, n_42, n_43, n_45, n_48, n_50, n_51, n_52, n_57, n_59, n_60, n_61, n_62, n_63, n_72, n_97, n_99, n_100, n_108, n_120, n_122, n_123, n_125, n_127, n_180, n_255, n_400, n_700, n_999, n_9999, n_2000000, n_2147483647, i3_add, i3_sub, i3_mul, i3_neg, i3_div, max_i3, min_i3, c_lt_t, c_lt_f, c_ge_t, c_ge_f, c_gt_t, c_gt_f, c_le_t, c_le_f, c_eq_t, c_eq_f, c_ne_t, c_ne_f, in_t, ↓reduceIte, or_true, true_or, e3_t, e3_f, sw_t, sw_f, sj_t, sj_f, i36, lg6_lt, lg6_eq, lg6_gt, Int.add_sub_cancel, l_0, l_1, l_2, l_3, l_4, l_5, l_10, l_9999, e8 h ho, is_tm (b_b h), b_ln h hi, b_ln h ht]
          exact ih
        · rw [show kP am ky (S 1) t i = false by simp [kP, q, q1]; omega] at ih
          simp only [Bool.false_eq_true, if_false, Int.add_zero] at ih
          simp (disch := omega) only [let_eq, mjBp_some, mjBd_some, n_0, n_1, n_2, n_3, n_4, n_5, n_6, n_7, n_8, n_9, n_10, n_11, n_12, n_13, n_16, n_20, n_21, n_22, n_23, n_30, n_31, n_32, n_40, n_41, n_42, n_43, n_45, n_48, n_50, n_51, n_52, n_57, n_59, n_60, n_61, n_62, n_63, n_72, n_97, n_99, n_100, n_108, n_120, n_122, n_123, n_125, n_127, n_180, n_255, n_400, n_700, n_999, n_9999, n_2000000, n_2147483647, i3_add, i3_sub, i3_mul, i3_neg, i3_div, max_i3, min_i3, c_lt_t, c_lt_f, c_ge_t, c_ge_f, c_gt_t, c_gt_f, c_le_t, c_le_f, c_eq_t, c_eq_f, c_ne_t, c_ne_f, in_t, ↓reduceIte, or_true, true_or, e3_t, e3_f, sw_t, sw_f, sj_t, sj_f, i36, lg6_lt, lg6_eq, lg6_gt, Int.add_sub_cancel, l_0, l_1, l_2, l_3, l_4, l_5, l_10, l_9999, e8 h ho, is_tm (b_b h), b_ln h hi, b_ln h ht]
          exact ih
      · rw [show kP am ky (S 1) t i = false by simp [kP, q]; omega] at ih
        simp only [Bool.false_eq_true, if_false, Int.add_zero] at ih
        simp (disch := omega) only [let_eq, mjBp_some, mjBd_some, n_0, n_1, n_2, n_3, n_4, n_5, n_6, n_7, n_8, n_9, n_10, n_11, n_12, n_13, n_16, n_20, n_21, n_22, n_23, n_30, n_31, n_32, n_40, n_41, n_42, n_43, n_45, n_48, n_50, n_51, n_52, n_57, n_59, n_60, n_61, n_62, n_63, n_72, n_97, n_99, n_100, n_108, n_120, n_122, n_123, n_125, n_127, n_180, n_255, n_400, n_700, n_999, n_9999, n_2000000, n_2147483647, i3_add, i3_sub, i3_mul, i3_neg, i3_div, max_i3, min_i3, c_lt_t, c_lt_f, c_ge_t, c_ge_f, c_gt_t, c_gt_f, c_le_t, c_le_f, c_eq_t, c_eq_f, c_ne_t, c_ne_f, in_t, ↓reduceIte, or_true, true_or, e3_t, e3_f, sw_t, sw_f, sj_t, sj_f, i36, lg6_lt, lg6_eq, lg6_gt, Int.add_sub_cancel, l_0, l_1, l_2, l_3, l_4, l_5, l_10, l_9999]
        exact ih
theorem e44h (h : cBk Z b S) (ho : okS S) {K : Nat} (hK : mjIs K 251 13 = true) (hK2 : (mjLay K).2 = 6) {am : Nat → Bool} {ky : Nat → Int} (hb : ∀ o, o < sT S → -2147483648 ≤ ky o ∧ ky o < 2147483647) (hk : ∀ o, o < sT S → Z.1 K o = i3 (if am o = true then ky o else 2147483647)) {k : Int} (hkr : -2147483648 ≤ k ∧ k ≤ 2147483647) : ∀ f i n, i + f = sT S → f < n → f44_kth_h2 n b K (i3 k) (i3 i) Z = some (i3 (fI (fun t => am t && decide (cN (kP am ky (S 1) t) (sT S) = k)) f i))
  | f, i, 0, _, hn => by omega
  | 0, i, n + 1, hf, _ => by
    have o1 := ok_sc ho
    rw [f44_kth_h2, fI]
    simp (disch := omega) only [let_eq, mjBp_some, mjBd_some, n_0, n_1, n_2, n_3, n_4, n_5, n_6, n_7, n_8, n_9, n_10, n_11, n_12, n_13, n_16, n_20, n_21, n_22, n_23, n_30, n_31, n_32, n_40, n_41, n_42, n_43, n_45, n_48, n_50, n_51, n_52, n_57, n_59, n_60, n_61, n_62, n_63, n_72, n_97, n_99, n_100, n_108, n_120, n_122, n_123, n_125, n_127, n_180, n_255, n_400, n_700, n_999, n_9999, n_2000000, n_2147483647, i3_add, i3_sub, i3_mul, i3_neg, i3_div, max_i3, min_i3, c_lt_t, c_lt_f, c_ge_t, c_ge_f, c_gt_t, c_gt_f, c_le_t, c_le_f, c_eq_t, c_eq_f, c_ne_t, c_ne_f, in_t, ↓reduceIte, or_true, true_or, e3_t, e3_f, sw_t, sw_f, sj_t, sj_f, i36, lg6_lt, lg6_eq, lg6_gt, Int.add_sub_cancel, l_0, l_1, l_2, l_3, l_4, l_5, l_10, l_9999, is_b (b_b h), b_T h]
  | f + 1, i, n + 1, hf, hn => by
    have hi : i < sT S := by omega
    have o1 := ok_sc ho
    have c1 := hb i hi
    have ih := e44h h ho hK hK2 hb hk hkr f (i + 1) n (by omega) (by omega)
    rw [f44_kth_h2, fI]
    simp (disch := omega) only [let_eq, mjBp_some, mjBd_some, n_0, n_1, n_2, n_3, n_4, n_5, n_6, n_7, n_8, n_9, n_10, n_11, n_12, n_13, n_16, n_20, n_21, n_22, n_23, n_30, n_31, n_32, n_40, n_41, n_42, n_43, n_45, n_48, n_50, n_51, n_52, n_57, n_59, n_60, n_61, n_62, n_63, n_72, n_97, n_99, n_100, n_108, n_120, n_122, n_123, n_125, n_127, n_180, n_255, n_400, n_700, n_999, n_9999, n_2000000, n_2147483647, i3_add, i3_sub, i3_mul, i3_neg, i3_div, max_i3, min_i3, c_lt_t, c_lt_f, c_ge_t, c_ge_f, c_gt_t, c_gt_f, c_le_t, c_le_f, c_eq_t, c_eq_f, c_ne_t, c_ne_f, in_t, ↓reduceIte, or_true, true_or, e3_t, e3_f, sw_t, sw_f, sj_t, sj_f, i36, lg6_lt, lg6_eq, lg6_gt, Int.add_sub_cancel, l_0, l_1, l_2, l_3, l_4, l_5, l_10, l_9999, is_b (b_b h), b_T h, e5 hK hK2, Int.toNat_natCast, hk i hi]
    cases q : am i with
    | false =>
      simp (disch := omega) only [let_eq, mjBp_some, mjBd_some, n_0, n_1, n_2, n_3, n_4, n_5, n_6, n_7, n_8, n_9, n_10, n_11, n_12, n_13, n_16, n_20, n_21, n_22, n_23, n_30, n_31, n_32, n_40, n_41, n_42, n_43, n_45, n_48, n_50, n_51, n_52, n_57, n_59, n_60, n_61, n_62, n_63, n_72, n_97, n_99, n_100, n_108, n_120, n_122, n_123, n_125, n_127, n_180, n_255, n_400, n_700, n_999, n_9999, n_2000000, n_2147483647, i3_add, i3_sub, i3_mul, i3_neg, i3_div, max_i3, min_i3, c_lt_t, c_lt_f, c_ge_t, c_ge_f, c_gt_t, c_gt_f, c_le_t, c_le_f, c_eq_t, c_eq_f, c_ne_t, c_ne_f, in_t, ↓reduceIte, or_true, true_or, e3_t, e3_f, sw_t, sw_f, sj_t, sj_f, i36, lg6_lt, lg6_eq, lg6_gt, Int.add_sub_cancel, l_0, l_1, l_2, l_3, l_4, l_5, l_10, l_9999, Bool.false_eq_true, Bool.false_and, if_false]
      exact ih
    | true =>
      have e := e43h h ho hK hK2 hb hk hi (sT S) 0 mjF (by omega) (by unfold mjF; omega)
      rw [cN] at e
      have e2 : f43_teamsAhead b K (i3 i) Z = some (i3 (cN (kP am ky (S 1) i) (sT S))) := by
        unfold f43_teamsAhead
        simp (disch := omega) only [let_eq, mjBp_some, mjBd_some, n_0, n_1, n_2, n_3, n_4, n_5, n_6, n_7, n_8, n_9, n_10, n_11, n_12, n_13, n_16, n_20, n_21, n_22, n_23, n_30, n_31, n_32, n_40, n_41, n_42, n_43, n_45, n_48, n_50, n_51, n_52, n_57, n_59, n_60, n_61, n_62, n_63, n_72, n_97, n_99, n_100, n_108, n_120, n_122, n_123, n_125, n_127, n_180, n_255, n_400, n_700, n_999, n_9999, n_2000000, n_2147483647, i3_add, i3_sub, i3_mul, i3_neg, i3_div, max_i3, min_i3, c_lt_t, c_lt_f, c_ge_t, c_ge_f, c_gt_t, c_gt_f, c_le_t, c_le_f, c_eq_t, c_eq_f, c_ne_t, c_ne_f, in_t, ↓reduceIte, or_true, true_or, e3_t, e3_f, sw_t, sw_f, sj_t, sj_f, i36, lg6_lt, lg6_eq, lg6_gt, Int.add_sub_cancel, l_0, l_1, l_2, l_3, l_4, l_5, l_10, l_9999, e5 hK hK2, Int.toNat_natCast, hk i hi, q, if_true]
        exact e
      have c3 := cN_bd (kP am ky (S 1) i) (sT S)
      by_cases q2 : cN (kP am ky (S 1) i) (sT S) = k
      · simp (disch := omega) only [let_eq, mjBp_some, mjBd_some, n_0, n_1, n_2, n_3, n_4, n_5, n_6, n_7, n_8, n_9, n_10, n_11, n_12, n_13, n_16, n_20, n_21, n_22, n_23, n_30, n_31, n_32, n_40, n_41, n_42, n_43, n_45, n_48, n_50, n_51, n_52, n_57, n_59, n_60, n_61, n_62, n_63, n_72, n_97, n_99, n_100, n_108, n_120, n_122, n_123, n_125, n_127, n_180, n_255, n_400, n_700, n_999, n_9999, n_2000000, n_2147483647, i3_add, i3_sub, i3_mul, i3_neg, i3_div, max_i3, min_i3, c_lt_t, c_lt_f, c_ge_t, c_ge_f, c_gt_t, c_gt_f, c_le_t, c_le_f, c_eq_t, c_eq_f, c_ne_t, c_ne_f, in_t, ↓reduceIte, or_true, true_or, e3_t, e3_f, sw_t, sw_f, sj_t, sj_f, i36, lg6_lt, lg6_eq, lg6_gt, Int.add_sub_cancel, l_0, l_1, l_2, l_3, l_4, l_5, l_10, l_9999, if_true, Bool.true_and, q2, decide_true, e2]
      · simp (disch := omega) only [let_eq, mjBp_some, mjBd_some, n_0, n_1, n_2, n_3, n_4, n_5, n_6, n_7, n_8, n_9, n_10, n_11, n_12, n_13, n_16, n_20, n_21, n_22, n_23, n_30, n_31, n_32, n_40, n_41, n_42, n_43, n_45, n_48, n_50, n_51, n_52, n_57, n_59, n_60, n_61, n_62, n_63, n_72, n_97, n_99, n_100, n_108, n_120, n_122, n_123, n_125, n_127, n_180, n_255, n_400, n_700, n_999, n_9999, n_2000000, n_2147483647, i3_add, i3_sub, i3_mul, i3_neg, i3_div, max_i3, min_i3, c_lt_t, c_lt_f, c_ge_t, c_ge_f, c_gt_t, c_gt_f, c_le_t, c_le_f, c_eq_t, c_eq_f, c_ne_t, c_ne_f, in_t, ↓reduceIte, or_true, true_or, e3_t, e3_f, sw_t, sw_f, sj_t, sj_f, i36, lg6_lt, lg6_eq, lg6_gt, Int.add_sub_cancel, l_0, l_1, l_2, l_3, l_4, l_5, l_10, l_9999, if_true, Bool.true_and, q2, decide_false, Bool.false_eq_true, if_false, e2]
        exact ih
theorem e44 (h : cBk Z b S) (ho : okS S) {K : Nat} (hK : mjIs K 251 13 = true) (hK2 : (mjLay K).2 = 6) {am : Nat → Bool} {ky : Nat → Int} (hb : ∀ o, o < sT S → -2147483648 ≤ ky o ∧ ky o < 2147483647) (hk : ∀ o, o < sT S → Z.1 K o = i3 (if am o = true then ky o else 2147483647)) {k : Int} (hkr : -2147483648 ≤ k ∧ k ≤ 2147483647) : f44_kth b K (i3 k) Z = some (i3 (kTh am ky (S 1) (sT S) k)) :=
  e44h h ho hK hK2 hb hk hkr (sT S) 0 mjF (by omega) (by have := ok_sc ho; unfold mjF; omega)
theorem m259k (h : mRep Z S) (ho : okS S) {am : Nat → Bool} {ky : Nat → Int} (hb : ∀ o, o < sT S → am o = true → -2147483648 ≤ ky o ∧ ky o ≤ 2147483647) (hk : ∀ o, o < sT S → Z.1 242 o = i3 (if am o = true then 1 else 0) ∧ (am o = true → Z.1 241 o = i3 (ky o))) {t : Nat} (ht : t < sT S) (hat : am t = true) (K : Int32 → Int32 → Int32 → mjZt → Option Int32) (k : Int32) : ∀ f i n, i + f = sT S → f < n → f259_keyedAt_h27 K n k (i3 t) (i3 (cN (kP am ky (S 1) t) i)) (i3 i) Z = K k (i3 t) (i3 (cN (kP am ky (S 1) t) (sT S))) Z
  | f, i, 0, _, hn => by omega
  | 0, i, n + 1, hf, _ => by
    obtain rfl : i = sT S := by omega
    have o1 := ok_sc ho
    rw [f259_keyedAt_h27]
    simp (disch := omega) only [let_eq, mjBp_some, mjBd_some, n_0, n_1, n_2, n_3, n_4, n_5, n_6, n_7, n_8, n_9, n_10, n_11, n_12, n_13, n_16, n_20, n_21, n_22, n_23, n_30, n_31, n_32, n_40, n_41, n_42, n_43, n_45, n_48, n_50, n_51, n_52, n_57, n_59, n_60, n_61, n_62, n_63, n_72, n_97, n_99, n_100, n_108, n_120, n_122, n_123, n_125, n_127, n_180, n_255, n_400, n_700, n_999, n_9999, n_2000000, n_2147483647, i3_add, i3_sub, i3_mul, i3_neg, i3_div, max_i3, min_i3, c_lt_t, c_lt_f, c_ge_t, c_ge_f, c_gt_t, c_gt_f, c_le_t, c_le_f, c_eq_t, c_eq_f, c_ne_t, c_ne_f, in_t, ↓reduceIte, or_true, true_or, e3_t, e3_f, sw_t, sw_f, sj_t, sj_f, i36, lg6_lt, lg6_eq, lg6_gt, Int.add_sub_cancel, l_0, l_1, l_2, l_3, l_4, l_5, l_10, l_9999, m_T h]
  | f + 1, i, n + 1, hf, hn => by
    have hi : i < sT S := by omega
    have o1 := ok_sc ho
    have o2 := ok_tm ho hi
    have o3 := ok_tm ho ht
    have c2 := hb t ht hat
    have ih := m259k h ho hb hk ht hat K k f (i + 1) n (by omega) (by omega)
    unfold sLn at o2 o3
    rw [f259_keyedAt_h27]
    simp (disch := omega) only [let_eq, mjBp_some, mjBd_some, n_0, n_1, n_2, n_3, n_4, n_5, n_6, n_7, n_8, n_9, n_10, n_11, n_12, n_13, n_16, n_20, n_21, n_22, n_23, n_30, n_31, n_32, n_40, n_41, n_42, n_43, n_45, n_48, n_50, n_51, n_52, n_57, n_59, n_60, n_61, n_62, n_63, n_72, n_97, n_99, n_100, n_108, n_120, n_122, n_123, n_125, n_127, n_180, n_255, n_400, n_700, n_999, n_9999, n_2000000, n_2147483647, i3_add, i3_sub, i3_mul, i3_neg, i3_div, max_i3, min_i3, c_lt_t, c_lt_f, c_ge_t, c_ge_f, c_gt_t, c_gt_f, c_le_t, c_le_f, c_eq_t, c_eq_f, c_ne_t, c_ne_f, in_t, ↓reduceIte, or_true, true_or, e3_t, e3_f, sw_t, sw_f, sj_t, sj_f, i36, lg6_lt, lg6_eq, lg6_gt, Int.add_sub_cancel, l_0, l_1, l_2, l_3, l_4, l_5, l_10, l_9999, m_T h, ix_nat, (hk i hi).1]
    rw [cN] at ih
    cases q : am i with
    | false =>
      rw [show kP am ky (S 1) t i = false by simp [kP, q]] at ih
      simp only [Bool.false_eq_true, if_false, Int.add_zero] at ih
      simp (disch := omega) only [let_eq, mjBp_some, mjBd_some, n_0, n_1, n_2, n_3, n_4, n_5, n_6, n_7, n_8, n_9, n_10, n_11, n_12, n_13, n_16, n_20, n_21, n_22, n_23, n_30, n_31, n_32, n_40, n_41, n_42, n_43, n_45, n_48, n_50, n_51, n_52, n_57, n_59, n_60, n_61, n_62, n_63, n_72, n_97, n_99, n_100, n_108, n_120, n_122, n_123, n_125, n_127, n_180, n_255, n_400, n_700, n_999, n_9999, n_2000000, n_2147483647, i3_add, i3_sub, i3_mul, i3_neg, i3_div, max_i3, min_i3, c_lt_t, c_lt_f, c_ge_t, c_ge_f, c_gt_t, c_gt_f, c_le_t, c_le_f, c_eq_t, c_eq_f, c_ne_t, c_ne_f, in_t, ↓reduceIte, or_true, true_or, e3_t, e3_f, sw_t, sw_f, sj_t, sj_f, i36, lg6_lt, lg6_eq, lg6_gt, Int.add_sub_cancel, l_0, l_1, l_2, l_3, l_4, l_5, l_10, l_9999, Bool.false_eq_true, if_false, m196_0, Int.add_zero]
      exact ih
    | true =>
      have c1 := hb i hi q
      simp only [if_true]
      simp (disch := omega) only [let_eq, mjBp_some, mjBd_some, n_0, n_1, n_2, n_3, n_4, n_5, n_6, n_7, n_8, n_9, n_10, n_11, n_12, n_13, n_16, n_20, n_21, n_22, n_23, n_30, n_31, n_32, n_40, n_41, n_42, n_43, n_45, n_48, n_50, n_51, n_52, n_57, n_59, n_60, n_61, n_62, n_63, n_72, n_97, n_99, n_100, n_108, n_120, n_122, n_123, n_125, n_127, n_180, n_255, n_400, n_700, n_999, n_9999, n_2000000, n_2147483647, i3_add, i3_sub, i3_mul, i3_neg, i3_div, max_i3, min_i3, c_lt_t, c_lt_f, c_ge_t, c_ge_f, c_gt_t, c_gt_f, c_le_t, c_le_f, c_eq_t, c_eq_f, c_ne_t, c_ne_f, in_t, ↓reduceIte, or_true, true_or, e3_t, e3_f, sw_t, sw_f, sj_t, sj_f, i36, lg6_lt, lg6_eq, lg6_gt, Int.add_sub_cancel, l_0, l_1, l_2, l_3, l_4, l_5, l_10, l_9999, (hk i hi).2 q, (hk t ht).2 hat, ix_nat, m_ln h]
      rcases Int.lt_trichotomy (ky i) (ky t) with q1 | q1 | q1
      · rw [show kP am ky (S 1) t i = true by simp [kP, q, q1]] at ih
        simp only [if_true] at ih
        simp (disch := omega) only [let_eq, mjBp_some, mjBd_some, n_0, n_1, n_2, n_3, n_4, n_5, n_6, n_7, n_8, n_9, n_10, n_11, n_12, n_13, n_16, n_20, n_21, n_22, n_23, n_30, n_31, n_32, n_40, n_41, n_42, n_43, n_45, n_48, n_50, n_51, n_52, n_57, n_59, n_60, n_61, n_62, n_63, n_72, n_97, n_99, n_100, n_108, n_120, n_122, n_123, n_125, n_127, n_180, n_255, n_400, n_700, n_999, n_9999, n_2000000, n_2147483647, i3_add, i3_sub, i3_mul, i3_neg, i3_div, max_i3, min_i3, c_lt_t, c_lt_f, c_ge_t, c_ge_f, c_gt_t, c_gt_f, c_le_t, c_le_f, c_eq_t, c_eq_f, c_ne_t, c_ne_f, in_t, ↓reduceIte, or_true, true_or, e3_t, e3_f, sw_t, sw_f, sj_t, sj_f, i36, lg6_lt, lg6_eq, lg6_gt, Int.add_sub_cancel, l_0, l_1, l_2, l_3, l_4, l_5, l_10, l_9999, m196_1]
        exact ih
      · by_cases q2 : S 1 i < S 1 t
        · rw [show kP am ky (S 1) t i = true by simp [kP, q, q1, q2]] at ih
          simp only [if_true] at ih
          simp (disch := omega) only [let_eq, mjBp_some, mjBd_some, n_0, n_1, n_2, n_3, n_4, n_5, n_6, n_7, n_8, n_9, n_10, n_11, n_12, n_13, n_16, n_20, n_21, n_22, n_23, n_30, n_31, n_32, n_40, n_41, n_42, n_43, n_45, n_48, n_50, n_51, n_52, n_57, n_59, n_60, n_61, n_62, n_63, n_72, n_97, n_99, n_100, n_108, n_120, n_122, n_123, n_125, n_127, n_180, n_255, n_400, n_700, n_999, n_9999, n_2000000, n_2147483647, i3_add, i3_sub, i3_mul, i3_neg, i3_div, max_i3, min_i3, c_lt_t, c_lt_f, c_ge_t, c_ge_f, c_gt_t, c_gt_f, c_le_t, c_le_f, c_eq_t, c_eq_f, c_ne_t, c_ne_f, in_t, ↓reduceIte, or_true, true_or, e3_t, e3_f, sw_t, sw_f, sj_t, sj_f, i36, lg6_lt, lg6_eq, lg6_gt, Int.add_sub_cancel, l_0, l_1, l_2, l_3, l_4, l_5, l_10, l_9999, m196_1]
          exact ih
        · rw [show kP am ky (S 1) t i = false by simp [kP, q, q1]; omega] at ih
          simp only [Bool.false_eq_true, if_false, Int.add_zero] at ih
          simp (disch := omega) only [let_eq, mjBp_some, mjBd_some, n_0, n_1, n_2, n_3, n_4, n_5, n_6, n_7, n_8, n_9, n_10, n_11, n_12, n_13, n_16, n_20, n_21, n_22, n_23, n_30, n_31, n_32, n_40, n_41, n_42, n_43, n_45, n_48, n_50, n_51, n_52, n_57, n_59, n_60, n_61, n_62, n_63, n_72, n_97, n_99, n_100, n_108, n_120, n_122, n_123, n_125, n_127, n_180, n_255, n_400, n_700, n_999, n_9999, n_2000000, n_2147483647, i3_add, i3_sub, i3_mul, i3_neg, i3_div, max_i3, min_i3, c_lt_t, c_lt_f, c_ge_t, c_ge_f, c_gt_t, c_gt_f, c_le_t, c_le_f, c_eq_t, c_eq_f, c_ne_t, c_ne_f, in_t, ↓reduceIte, or_true, true_or, e3_t, e3_f, sw_t, sw_f, sj_t, sj_f, i36, lg6_lt, lg6_eq, lg6_gt, Int.add_sub_cancel, l_0, l_1, l_2, l_3, l_4, l_5, l_10, l_9999, m196_0, Int.add_zero]
          exact ih
      · rw [show kP am ky (S 1) t i = false by simp [kP, q]; omega] at ih
        simp only [Bool.false_eq_true, if_false, Int.add_zero] at ih
        simp (disch := omega) only [let_eq, mjBp_some, mjBd_some, n_0, n_1, n_2, n_3, n_4, n_5, n_6, n_7, n_8, n_9, n_10, n_11, n_12, n_13, n_16, n_20, n_21, n_22, n_23, n_30, n_31, n_32, n_40, n_41, n_42, n_43, n_45, n_48, n_50, n_51, n_52, n_57, n_59, n_60, n_61, n_62, n_63, n_72, n_97, n_99, n_100, n_108, n_120, n_122, n_123, n_125, n_127, n_180, n_255, n_400, n_700, n_999, n_9999, n_2000000, n_2147483647, i3_add, i3_sub, i3_mul, i3_neg, i3_div, max_i3, min_i3, c_lt_t, c_lt_f, c_ge_t, c_ge_f, c_gt_t, c_gt_f, c_le_t, c_le_f, c_eq_t, c_eq_f, c_ne_t, c_ne_f, in_t, ↓reduceIte, or_true, true_or, e3_t, e3_f, sw_t, sw_f, sj_t, sj_f, i36, lg6_lt, lg6_eq, lg6_gt, Int.add_sub_cancel, l_0, l_1, l_2, l_3, l_4, l_5, l_10, l_9999, m196_0, Int.add_zero]
        exact ih
theorem m259h (h : mRep Z S) (ho : okS S) {am : Nat → Bool} {ky : Nat → Int} (hb : ∀ o, o < sT S → am o = true → -2147483648 ≤ ky o ∧ ky o ≤ 2147483647) (hk : ∀ o, o < sT S → Z.1 242 o = i3 (if am o = true then 1 else 0) ∧ (am o = true → Z.1 241 o = i3 (ky o))) {k : Int} (hkr : -2147483648 ≤ k ∧ k ≤ 2147483647) : ∀ f i n, i + f = sT S → f < n → f259_keyedAt_h2 n (i3 k) (i3 i) Z = some (i3 (fI (fun t => am t && decide (cN (kP am ky (S 1) t) (sT S) = k)) f i))
  | f, i, 0, _, hn => by omega
  | 0, i, n + 1, hf, _ => by
    have o1 := ok_sc ho
    rw [f259_keyedAt_h2, fI]
    simp (disch := omega) only [let_eq, mjBp_some, mjBd_some, n_0, n_1, n_2, n_3, n_4, n_5, n_6, n_7, n_8, n_9, n_10, n_11, n_12, n_13, n_16, n_20, n_21, n_22, n_23, n_30, n_31, n_32, n_40, n_41, n_42, n_43, n_45, n_48, n_50, n_51, n_52, n_57, n_59, n_60, n_61, n_62, n_63, n_72, n_97, n_99, n_100, n_108, n_120, n_122, n_123, n_125, n_127, n_180, n_255, n_400, n_700, n_999, n_9999, n_2000000, n_2147483647, i3_add, i3_sub, i3_mul, i3_neg, i3_div, max_i3, min_i3, c_lt_t, c_lt_f, c_ge_t, c_ge_f, c_gt_t, c_gt_f, c_le_t, c_le_f, c_eq_t, c_eq_f, c_ne_t, c_ne_f, in_t, ↓reduceIte, or_true, true_or, e3_t, e3_f, sw_t, sw_f, sj_t, sj_f, i36, lg6_lt, lg6_eq, lg6_gt, Int.add_sub_cancel, l_0, l_1, l_2, l_3, l_4, l_5, l_10, l_9999, m_T h]
  | f + 1, i, n + 1, hf, hn => by
    have hi : i < sT S := by omega
    have o1 := ok_sc ho
    have ih := m259h h ho hb hk hkr f (i + 1) n (by omega) (by omega)
    rw [f259_keyedAt_h2, fI]
    simp (disch := omega) only [let_eq, mjBp_some, mjBd_some, n_0, n_1, n_2, n_3, n_4, n_5, n_6, n_7, n_8, n_9, n_10, n_11, n_12, n_13, n_16, n_20, n_21, n_22, n_23, n_30, n_31, n_32, n_40, n_41, n_42, n_43, n_45, n_48, n_50, n_51, n_52, n_57, n_59, n_60, n_61, n_62, n_63, n_72, n_97, n_99, n_100, n_108, n_120, n_122, n_123, n_125, n_127, n_180, n_255, n_400, n_700, n_999, n_9999, n_2000000, n_2147483647, i3_add, i3_sub, i3_mul, i3_neg, i3_div, max_i3, min_i3, c_lt_t, c_lt_f, c_ge_t, c_ge_f, c_gt_t, c_gt_f, c_le_t, c_le_f, c_eq_t, c_eq_f, c_ne_t, c_ne_f, in_t, ↓reduceIte, or_true, true_or, e3_t, e3_f, sw_t, sw_f, sj_t, sj_f, i36, lg6_lt, lg6_eq, lg6_gt, Int.add_sub_cancel, l_0, l_1, l_2, l_3, l_4, l_5, l_10, l_9999, m_T h, ix_nat, (hk i hi).1]
    cases q : am i with
    | false =>
      simp (disch := omega) only [let_eq, mjBp_some, mjBd_some, n_0, n_1, n_2, n_3, n_4, n_5, n_6, n_7, n_8, n_9, n_10, n_11, n_12, n_13, n_16, n_20, n_21, n_22, n_23, n_30, n_31, n_32, n_40, n_41, n_42, n_43, n_45, n_48, n_50, n_51, n_52, n_57, n_59, n_60, n_61, n_62, n_63, n_72, n_97, n_99, n_100, n_108, n_120, n_122, n_123, n_125, n_127, n_180, n_255, n_400, n_700, n_999, n_9999, n_2000000, n_2147483647, i3_add, i3_sub, i3_mul, i3_neg, i3_div, max_i3, min_i3, c_lt_t, c_lt_f, c_ge_t, c_ge_f, c_gt_t, c_gt_f, c_le_t, c_le_f, c_eq_t, c_eq_f, c_ne_t, c_ne_f, in_t, ↓reduceIte, or_true, true_or, e3_t, e3_f, sw_t, sw_f, sj_t, sj_f, i36, lg6_lt, lg6_eq, lg6_gt, Int.add_sub_cancel, l_0, l_1, l_2, l_3, l_4, l_5, l_10, l_9999, Bool.false_eq_true, Bool.false_and, if_false]
      exact ih
    | true =>
      have e := fun K k => m259k h ho hb hk hi q K k (sT S) 0 mjF (by omega) (by unfold mjF; omega)
      simp only [cN] at e
      have c3 := cN_bd (kP am ky (S 1) i) (sT S)
      simp (disch := omega) only [let_eq, mjBp_some, mjBd_some, n_0, n_1, n_2, n_3, n_4, n_5, n_6, n_7, n_8, n_9, n_10, n_11, n_12, n_13, n_16, n_20, n_21, n_22, n_23, n_30, n_31, n_32, n_40, n_41, n_42, n_43, n_45, n_48, n_50, n_51, n_52, n_57, n_59, n_60, n_61, n_62, n_63, n_72, n_97, n_99, n_100, n_108, n_120, n_122, n_123, n_125, n_127, n_180, n_255, n_400, n_700, n_999, n_9999, n_2000000, n_2147483647, i3_add, i3_sub, i3_mul, i3_neg, i3_div, max_i3, min_i3, c_lt_t, c_lt_f, c_ge_t, c_ge_f, c_gt_t, c_gt_f, c_le_t, c_le_f, c_eq_t, c_eq_f, c_ne_t, c_ne_f, in_t, ↓reduceIte, or_true, true_or, e3_t, e3_f, sw_t, sw_f, sj_t, sj_f, i36, lg6_lt, lg6_eq, lg6_gt, Int.add_sub_cancel, l_0, l_1, l_2, l_3, l_4, l_5, l_10, l_9999, if_true]
      rw [show i3 ((0 : Nat) : Int) = i3 0 from rfl] at e
      rw [e]
      by_cases q2 : cN (kP am ky (S 1) i) (sT S) = k
      · simp (disch := omega) only [let_eq, mjBp_some, mjBd_some, n_0, n_1, n_2, n_3, n_4, n_5, n_6, n_7, n_8, n_9, n_10, n_11, n_12, n_13, n_16, n_20, n_21, n_22, n_23, n_30, n_31, n_32, n_40, n_41, n_42, n_43, n_45, n_48, n_50, n_51, n_52, n_57, n_59, n_60, n_61, n_62, n_63, n_72, n_97, n_99, n_100, n_108, n_120, n_122, n_123, n_125, n_127, n_180, n_255, n_400, n_700, n_999, n_9999, n_2000000, n_2147483647, i3_add, i3_sub, i3_mul, i3_neg, i3_div, max_i3, min_i3, c_lt_t, c_lt_f, c_ge_t, c_ge_f, c_gt_t, c_gt_f, c_le_t, c_le_f, c_eq_t, c_eq_f, c_ne_t, c_ne_f, in_t, ↓reduceIte, or_true, true_or, e3_t, e3_f, sw_t, sw_f, sj_t, sj_f, i36, lg6_lt, lg6_eq, lg6_gt, Int.add_sub_cancel, l_0, l_1, l_2, l_3, l_4, l_5, l_10, l_9999, Bool.true_and, q2, decide_true, if_true]
      · simp (disch := omega) only [let_eq, mjBp_some, mjBd_some, n_0, n_1, n_2, n_3, n_4, n_5, n_6, n_7, n_8, n_9, n_10, n_11, n_12, n_13, n_16, n_20, n_21, n_22, n_23, n_30, n_31, n_32, n_40, n_41, n_42, n_43, n_45, n_48, n_50, n_51, n_52, n_57, n_59, n_60, n_61, n_62, n_63, n_72, n_97, n_99, n_100, n_108, n_120, n_122, n_123, n_125, n_127, n_180, n_255, n_400, n_700, n_999, n_9999, n_2000000, n_2147483647, i3_add, i3_sub, i3_mul, i3_neg, i3_div, max_i3, min_i3, c_lt_t, c_lt_f, c_ge_t, c_ge_f, c_gt_t, c_gt_f, c_le_t, c_le_f, c_eq_t, c_eq_f, c_ne_t, c_ne_f, in_t, ↓reduceIte, or_true, true_or, e3_t, e3_f, sw_t, sw_f, sj_t, sj_f, i36, lg6_lt, lg6_eq, lg6_gt, Int.add_sub_cancel, l_0, l_1, l_2, l_3, l_4, l_5, l_10, l_9999, Bool.true_and, q2, decide_false, Bool.false_eq_true, if_false]
        exact ih
theorem m259 (h : mRep Z S) (ho : okS S) {am : Nat → Bool} {ky : Nat → Int} (hb : ∀ o, o < sT S → am o = true → -2147483648 ≤ ky o ∧ ky o ≤ 2147483647) (hk : ∀ o, o < sT S → Z.1 242 o = i3 (if am o = true then 1 else 0) ∧ (am o = true → Z.1 241 o = i3 (ky o))) {k : Int} (hkr : -2147483648 ≤ k ∧ k ≤ 2147483647) : f259_keyedAt (i3 k) Z = some (i3 (kTh am ky (S 1) (sT S) k)) :=
  m259h h ho hb hk hkr (sT S) 0 mjF (by omega) (by have := ok_sc ho; unfold mjF; omega)
end KY
