/-! RULES: what holds, who is struck by what -/
def sHo (S : mjS) (fk : Nat → Int) (r p : Nat) : Bool := decide (vS S fk (sTo S r p - 1) = 1)
def hasEx (S : mjS) (r : Nat) : Bool := decide (sFr S r 1 < sTo S r 1)
/-- struck by a rule, were it of a tenth and a size -/
def sSt (S : mjS) (W : Nat → Bool) (a : Nat) (te sz : Int) (r : Nat) : Bool := !(W a) && (decide (sKd S a = S 7 r) && (sHo S (sFk S W a te sz) r 0 && !(hasEx S r && sHo S (sFk S W a te sz) r 1)))
section RU9
variable {S : mjS} {b : Nat}
theorem fk_bd (ho : okS S) {W : Nat → Bool} {a : Nat} (ha : a < sAll S) {te sz : Int} (ht : 0 ≤ te ∧ te ≤ 9999) (hs : 0 ≤ sz ∧ sz ≤ 9999) : ∀ k, k ≤ 10 → -2147483648 ≤ sFk S W a te sz k ∧ sFk S W a te sz k ≤ 2147483647 := by
  intro k hk
  have o1 := ok_sc ho
  have o2 := all_le ho
  have o4 := ok_tr ho
  have t2 := tmA_lt ho ha
  have o5 := ok_tm ho t2
  have p2 := pl_bd ho t2 te
  have c8 := cN_bd (agP S W a te) (sAll S)
  have c9 := cN_bd (foP S W a te) (sA S)
  have c10 := cN_bd (rkP S a te) (sT S)
  have la := (la_spec S (sTmA S a) te).1
  unfold sLn at o5
  rcases (by omega : k = 0 ∨ k = 1 ∨ k = 2 ∨ k = 3 ∨ k = 4 ∨ k = 5 ∨ k = 6 ∨ k = 7 ∨ k = 8 ∨ k = 9 ∨ k = 10) with rfl | rfl | rfl | rfl | rfl | rfl | rfl | rfl | rfl | rfl | rfl
  · show -2147483648 ≤ te ∧ te ≤ 2147483647; omega
  · show -2147483648 ≤ sz ∧ sz ≤ 2147483647; omega
  · show -2147483648 ≤ (sLa S (sTmA S a) te : Int) + 1 ∧ (sLa S (sTmA S a) te : Int) + 1 ≤ 2147483647; omega
  · show -2147483648 ≤ sPl S (sTmA S a) te / 10 ∧ sPl S (sTmA S a) te / 10 ≤ 2147483647; omega
  · show -2147483648 ≤ S 1 (sTmA S a) ∧ S 1 (sTmA S a) ≤ 2147483647; omega
  · show -2147483648 ≤ (if sOt S a = -1 then 0 else S 1 (sOt S a).toNat) ∧ (if sOt S a = -1 then 0 else S 1 (sOt S a).toNat) ≤ 2147483647
    rcases ot_cases ho (a := a) with ⟨q, _⟩ | ⟨o, q, q2, _⟩
    · rw [if_pos q]; omega
    · rw [if_neg (by omega), q, Int.toNat_natCast]
      have := ok_tm ho q2
      unfold sLn at this
      omega
  · show -2147483648 ≤ (if sOt S a = -1 then 0 else sPl S (sTmA S a) te - sPl S (sOt S a).toNat te) ∧ (if sOt S a = -1 then 0 else sPl S (sTmA S a) te - sPl S (sOt S a).toNat te) ≤ 2147483647
    rcases ot_cases ho (a := a) with ⟨q, _⟩ | ⟨o, q, q2, _⟩
    · rw [if_pos q]; omega
    · rw [if_neg (by omega), q, Int.toNat_natCast]
      have := pl_bd ho q2 te
      omega
  · show -2147483648 ≤ (if S 0 4 = 0 then 0 else S 0 1 + S 0 4 - sPl S (sTmA S a) te / 10) ∧ (if S 0 4 = 0 then 0 else S 0 1 + S 0 4 - sPl S (sTmA S a) te / 10) ≤ 2147483647
    split <;> omega
  · show -2147483648 ≤ cN (agP S W a te) (sAll S) ∧ cN (agP S W a te) (sAll S) ≤ 2147483647; omega
  · show -2147483648 ≤ cN (foP S W a te) (sA S) ∧ cN (foP S W a te) (sA S) ≤ 2147483647; omega
  · show -2147483648 ≤ cN (rkP S a te) (sT S) + 1 ∧ cN (rkP S a te) (sT S) + 1 ≤ 2147483647; omega
/-! the model -/
theorem ca_fr (hoc : okC S) {Z : mjZt} (hm : mRep Z S) {r p : Nat} (hr : r < sR S) (hp : p < 2) : Z.1 236 (4 * r + 2 * p) = i3 (sFr S r p) ∧ Z.1 236 (4 * r + 2 * p + 1) = i3 (sTo S r p) := by
  obtain ⟨c1, c2, _⟩ := hoc r p hr hp
  rw [m_ca hm, m_ca hm]
  unfold sFr sTo sCa
  rw [Int.toNat_of_nonneg c1, Int.toNat_of_nonneg c2]
  exact ⟨rfl, rfl⟩
theorem m289 (ho : okS S) (hoc : okC S) {Z : mjZt} (hm : mRep Z S) {r : Nat} (hr : r < sR S) : f289_hasExcuse (i3 r) Z = some (i3 (if hasEx S r = true then 1 else 0)) := by
  have o1 := ok_sc ho
  obtain ⟨c1, c2⟩ := ca_fr hoc hm hr (p := 1) (by omega)
  obtain ⟨_, _, c3, c4, _⟩ := hoc r 1 hr (by omega)
  unfold f289_hasExcuse hasEx
  rw [show (4 : Int32) = i3 4 from rfl, show (3 : Int32) = i3 3 from rfl, show (2 : Int32) = i3 2 from rfl, i3_mul, i3_add, i3_add, if_pos (in_p (by omega)), if_pos (in_p (by omega)), ix_i3 (by omega), ix_i3 (by omega), show (4 * (r : Int) + 3).toNat = 4 * r + 2 * 1 + 1 by omega, show (4 * (r : Int) + 2).toNat = 4 * r + 2 * 1 by omega, c1, c2]
  by_cases q : sFr S r 1 < sTo S r 1
  · rw [if_neg (by rw [c_le (by omega)]; omega), decide_eq_true q]; rfl
  · rw [if_pos (by rw [c_le (by omega)]; omega), decide_eq_false q]; rfl
theorem m291t (ho : okS S) {Z : mjZt} (hm : mRep Z S) {r : Nat} (hr : r < sR S) : f291_isRule (i3 r) Z = some (i3 1) := by
  have o1 := ok_sc ho
  unfold f291_isRule
  simp (disch := omega) only [let_eq, mjBp_some, mjBd_some, n_0, n_1, n_2, n_3, n_4, n_5, n_6, n_7, n_8, n_9, n_10, n_11, n_12, n_13, n_16, n_20, n_21, n_22, n_23, n_30, n_31, n_32, n_40, n_41, n_42, n_43, n_45, n_48, n_50, n_51, n_52, n_57, n_59, n_60, n_61, n_62, n_63, n_72, n_97, n_99, n_100, n_108, n_120, n_122, n_123, n_125, n_127, n_180, n_255, n_400, n_700, n_999, n_9999, n_2000000, n_2147483647, i3_add, i3_sub, i3_mul, i3_neg, i3_div, max_i3, min_i3, i6_add, i6_sub, i6_mul, i6_neg, c_lt_t, c_lt_f, c_ge_t, c_ge_f, c_gt_t, c_gt_f, c_le_t, c_le_f, c_eq_t, c_eq_f, c_ne_t, c_ne_f, in_t, i3_ofNat, ↓reduceIte, or_true, true_or, or_false, false_or, and_true, true_and, and_false, false_and, decide_true, decide_false, Bool.false_eq_true, not_true_eq_false, not_false_eq_true, Bool.true_and, Bool.false_and, Bool.and_true, Bool.and_false, Bool.true_or, Bool.false_or, Bool.or_true, Bool.or_false, e3_t, e3_f, sw_t, sw_f, sj_t, sj_f, i36, lg6_lt, lg6_eq, lg6_gt, Int.add_sub_cancel, l_0, l_1, l_2, l_3, l_4, l_5, l_10, l_9999, m_R hm, m195t]
theorem m291f (ho : okS S) {Z : mjZt} (hm : mRep Z S) {r : Int} (hr : -2147483648 ≤ r ∧ r ≤ 2147483647 ∧ (r < 0 ∨ sR S ≤ r)) : f291_isRule (i3 r) Z = some (i3 0) := by
  have o1 := ok_sc ho
  unfold f291_isRule
  simp (disch := omega) only [let_eq, mjBp_some, mjBd_some, n_0, n_1, n_2, n_3, n_4, n_5, n_6, n_7, n_8, n_9, n_10, n_11, n_12, n_13, n_16, n_20, n_21, n_22, n_23, n_30, n_31, n_32, n_40, n_41, n_42, n_43, n_45, n_48, n_50, n_51, n_52, n_57, n_59, n_60, n_61, n_62, n_63, n_72, n_97, n_99, n_100, n_108, n_120, n_122, n_123, n_125, n_127, n_180, n_255, n_400, n_700, n_999, n_9999, n_2000000, n_2147483647, i3_add, i3_sub, i3_mul, i3_neg, i3_div, max_i3, min_i3, i6_add, i6_sub, i6_mul, i6_neg, c_lt_t, c_lt_f, c_ge_t, c_ge_f, c_gt_t, c_gt_f, c_le_t, c_le_f, c_eq_t, c_eq_f, c_ne_t, c_ne_f, in_t, i3_ofNat, ↓reduceIte, or_true, true_or, or_false, false_or, and_true, true_and, and_false, false_and, decide_true, decide_false, Bool.false_eq_true, not_true_eq_false, not_false_eq_true, Bool.true_and, Bool.false_and, Bool.and_true, Bool.and_false, Bool.true_or, Bool.false_or, Bool.or_true, Bool.or_false, e3_t, e3_f, sw_t, sw_f, sj_t, sj_f, i36, lg6_lt, lg6_eq, lg6_gt, Int.add_sub_cancel, l_0, l_1, l_2, l_3, l_4, l_5, l_10, l_9999, m_R hm, m195f]
theorem m290p (ho : okS S) (hoc : okC S) {fk : Nat → Int} (hf : ∀ k, k ≤ 10 → -2147483648 ≤ fk k ∧ fk k ≤ 2147483647) {Z : mjZt} (hm : mRep Z S) {r p : Nat} (hr : r < sR S) (hp : p < 2) (hlt : sFr S r p < sTo S r p) (x1 : Int32) (hF : ∀ Z', eqP Z Z' → ∀ k : Nat, k ≤ 10 → f280_factOf x1 (i3 k) Z' = some (i3 (fk k))) : ∃ Z1, f290_holdsPart (i3 r) (i3 p) x1 Z = some (i3 (if sHo S fk r p = true then 1 else 0), Z1) ∧ eqP Z Z1 ∧ whR Z1 S (sFr S r p) fk (sTo S r p - 1) 0 := by
  have o1 := ok_sc ho
  obtain ⟨c1, c2⟩ := ca_fr hoc hm hr hp
  obtain ⟨_, _, c3, c4, _, c6⟩ := hoc r p hr hp
  obtain ⟨Z1, r1, r2, r3⟩ := m288 hf (c6 hlt).1 c4 (c6 hlt).2 x1 hm hF
  refine ⟨Z1, ?_, r2, r3⟩
  unfold f290_holdsPart sHo
  rw [show (4 : Int32) = i3 4 from rfl, show (2 : Int32) = i3 2 from rfl, i3_mul, i3_mul, i3_add, show (1 : Int32) = i3 1 from rfl, i3_add, if_pos (in_p (by omega)), if_pos (in_p (by omega)), ix_i3 (by omega), ix_i3 (by omega), show (4 * (r : Int) + 2 * p).toNat = 4 * r + 2 * p by omega, show (4 * (r : Int) + 2 * p + 1).toNat = 4 * r + 2 * p + 1 by omega, c1, c2, r1, mjBd_some]
  by_cases q : vS S fk (sTo S r p - 1) = 1
  · rw [if_pos q, decide_eq_true q]; rfl
  · rw [if_neg q, decide_eq_false q]; rfl
theorem m296p (ho : okS S) (hoc : okC S) {W : Nat → Bool} {Z : mjZt} (hm : mRep Z S) (hW : mWv Z S W) {a : Nat} (ha : a < sAll S) {r : Nat} (hr : r < sR S) : ∃ Z1, f296_isStruck (i3 a) (i3 r) Z = some (i3 (if sSt S W a (sTe S a) (sSz S a) r = true then 1 else 0), Z1) ∧ eqP Z Z1 := by
  have o1 := ok_sc ho
  have k1 := kd_bd ho (a := a)
  have k2 := ok_rl ho hr
  have hf := fk_bd ho (W := W) ha (te_bd ho ha) (sz := sSz S a) (by have := sz_bd ho ha; omega)
  have hF : ∀ Z2, eqP Z Z2 → ∀ Z', eqP Z2 Z' → ∀ k : Nat, k ≤ 10 → f280_factOf (i3 a) (i3 k) Z' = some (i3 (sFk S W a (sTe S a) (sSz S a) k)) := fun Z2 e2 Z' e k hk => m280 (mRep_q hm (eqP_tr e2 e).1) ho (mWv_q hW (eqP_tr e2 e).1) ha hk
  obtain ⟨_, _, _, _, c5, _⟩ := hoc r 0 hr (by omega)
  obtain ⟨Z1, r1, r2, _⟩ := m290p ho hoc hf hm hr (p := 0) (by omega) (c5 rfl) (i3 a) (hF Z eqP_rf)
  rw [show i3 ((0 : Nat) : Int) = 0 from rfl] at r1
  unfold f296_isStruck sSt
  rw [hW a ha, mjBp_some]
  cases q1 : W a with
  | true => exact ⟨Z, rfl, eqP_rf⟩
  | false =>
    rw [if_neg (by decide), m273 hm ho ha, mjBp_some, if_pos (in_p (by omega)), ix_nat (by omega), m_rk hm]
    by_cases q2 : sKd S a = S 7 r
    · rw [if_neg (by rw [c_ne (by omega)]; omega), r1, mjBd_some, decide_eq_true q2]
      cases q3 : sHo S (sFk S W a (sTe S a) (sSz S a)) r 0 with
      | false => exact ⟨Z1, rfl, r2⟩
      | true =>
        rw [if_neg (by decide), m289 ho hoc (mRep_q hm r2.1) hr, mjBp_some]
        cases q4 : hasEx S r with
        | false => exact ⟨Z1, rfl, r2⟩
        | true =>
          have hlt : sFr S r 1 < sTo S r 1 := by simpa [hasEx] using q4
          obtain ⟨Z2, s1, s2, _⟩ := m290p ho hoc hf (mRep_q hm r2.1) hr (p := 1) (by omega) hlt (i3 a) (hF Z1 r2)
          rw [show i3 ((1 : Nat) : Int) = 1 from rfl] at s1
          rw [if_neg (by decide), s1, mjBd_some]
          cases q5 : sHo S (sFk S W a (sTe S a) (sSz S a)) r 1 with
          | false => exact ⟨Z2, rfl, eqP_tr r2 s2⟩
          | true => exact ⟨Z2, rfl, eqP_tr r2 s2⟩
    · rw [if_pos (by rw [c_ne (by omega)]; omega), decide_eq_false q2]
      exact ⟨Z, rfl, eqP_rf⟩
theorem m298h (ho : okS S) (hoc : okC S) {W : Nat → Bool} {a : Nat} (ha : a < sAll S) : ∀ f i n (Z : mjZt), i + f = sR S → f < n → mRep Z S → mWv Z S W → ∃ Z1, f298_firstRule_h2 n (i3 a) (i3 i) Z = some (i3 (fI (fun r => sSt S W a (sTe S a) (sSz S a) r) f i), Z1) ∧ eqP Z Z1
  | f, i, 0, Z, _, hn, _, _ => by omega
  | 0, i, n + 1, Z, hf, _, hm, hW => by
    have o1 := ok_sc ho
    refine ⟨Z, ?_, eqP_rf⟩
    rw [f298_firstRule_h2, fI, m_R hm, if_pos (by rw [c_ge (by omega)]; omega)]; rfl
  | f + 1, i, n + 1, Z, hf, hn, hm, hW => by
    have o1 := ok_sc ho
    obtain ⟨Z1, r1, r2⟩ := m296p ho hoc hm hW ha (r := i) (by omega)
    rw [f298_firstRule_h2, fI, m_R hm, if_neg (by rw [c_ge (by omega)]; omega), r1, mjBd_some]
    cases q : sSt S W a (sTe S a) (sSz S a) i with
    | true => exact ⟨Z1, rfl, r2⟩
    | false =>
      obtain ⟨Z2, s1, s2⟩ := m298h ho hoc ha f (i + 1) n Z1 (by omega) (by omega) (mRep_q hm r2.1) (mWv_q hW r2.1)
      refine ⟨Z2, ?_, eqP_tr r2 s2⟩
      rw [if_pos (by decide), i3_s]
      exact s1
def fRu (S : mjS) (W : Nat → Bool) (a : Nat) (te sz : Int) : Int := fI (fun r => sSt S W a te sz r) (sR S) 0
theorem m298p (ho : okS S) (hoc : okC S) {W : Nat → Bool} {a : Nat} (ha : a < sAll S) {Z : mjZt} (hm : mRep Z S) (hW : mWv Z S W) : ∃ Z1, f298_firstRule (i3 a) Z = some (i3 (fRu S W a (sTe S a) (sSz S a)), Z1) ∧ eqP Z Z1 :=
  m298h ho hoc ha (sR S) 0 mjF Z (by omega) (by have := ok_sc ho; unfold mjF; omega) hm hW
theorem m290 (ho : okS S) (hoc : okC S) {fk : Nat → Int} (hf : ∀ k, k ≤ 10 → -2147483648 ≤ fk k ∧ fk k ≤ 2147483647) {Z : mjZt} (hm : mRep Z S) {r p : Nat} (hr : r < sR S) (hp : p < 2) (hlt : sFr S r p < sTo S r p) (x1 : Int32) (hF : ∀ Z', eqQ Z Z' → ∀ k : Nat, k ≤ 10 → f280_factOf x1 (i3 k) Z' = some (i3 (fk k))) : ∃ Z1, f290_holdsPart (i3 r) (i3 p) x1 Z = some (i3 (if sHo S fk r p = true then 1 else 0), Z1) ∧ eqQ Z Z1 ∧ whR Z1 S (sFr S r p) fk (sTo S r p - 1) 0 := by
  obtain ⟨Z1, r1, r2, r3⟩ := m290p ho hoc hf hm hr hp hlt x1 (fun Z' e => hF Z' e.1)
  exact ⟨Z1, r1, r2.1, r3⟩
theorem m296 (ho : okS S) (hoc : okC S) {W : Nat → Bool} {Z : mjZt} (hm : mRep Z S) (hW : mWv Z S W) {a : Nat} (ha : a < sAll S) {r : Nat} (hr : r < sR S) : ∃ Z1, f296_isStruck (i3 a) (i3 r) Z = some (i3 (if sSt S W a (sTe S a) (sSz S a) r = true then 1 else 0), Z1) ∧ eqQ Z Z1 := by
  obtain ⟨Z1, r1, r2⟩ := m296p ho hoc hm hW ha hr
  exact ⟨Z1, r1, r2.1⟩
theorem m298 (ho : okS S) (hoc : okC S) {W : Nat → Bool} {a : Nat} (ha : a < sAll S) {Z : mjZt} (hm : mRep Z S) (hW : mWv Z S W) : ∃ Z1, f298_firstRule (i3 a) Z = some (i3 (fRu S W a (sTe S a) (sSz S a)), Z1) ∧ eqQ Z Z1 := by
  obtain ⟨Z1, r1, r2⟩ := m298p ho hoc ha hm hW
  exact ⟨Z1, r1, r2.1⟩
/-! the class -/
theorem e20 {Z : mjZt} (h : cBk Z b S) (ho : okS S) {r : Nat} (hr : r < sR S) : f20_kindOfRule b (i3 r) Z = some (i3 (S 7 r)) := by
  have o1 := ok_sc ho
  have hb := b_b h
  unfold f20_kindOfRule
  rw [if_pos (is_b hb), e5 (is_b11 hb).1 (is_b11 hb).2 (by omega) (by omega), mjBp_some, Int.toNat_natCast, (b_rl h hr).1]
/-- a bit more, of ints -/
theorem or_bit3 {x : Int32} {i : Nat} (hi : i < 32) {P : Nat → Bool} (h : ∀ j, j < 32 → bt x j = (decide (j < i) && P j)) : ∀ j, j < 32 → bt (if P i = true then x ||| (i3 1 <<< (i3 i &&& 31)) else x) j = (decide (j < i + 1) && P j) := by
  intro j hj
  by_cases q : j = i
  · subst q
    cases q2 : P j with
    | true => rw [if_pos rfl, bt_or, bt_single hj hj]; simp
    | false => rw [if_neg (by decide), h j hj, q2]; simp
  · have e : decide (j < i + 1) = decide (j < i) := decide_eq_decide.mpr (by omega)
    rw [e, ← h j hj]
    split
    · rw [bt_or, bt_single hi hj, decide_eq_false q, Bool.or_false]
    · rfl
theorem e93h (ho : okS S) (hoc : okC S) {W : Nat → Bool} {a : Nat} (ha : a < sAll S) {te sz : Int} (ht : 0 ≤ te ∧ te ≤ 9999) (hs : 0 ≤ sz ∧ sz ≤ 9999) (hwa : W a = false) : ∀ f i n (x : Int32) (Z : mjZt), i + f = sR S → f < n → cBk Z b S → cTr Z b S → (∀ k, k ≤ 10 → Z.1 191 k = i3 (sFk S W a te sz k)) → (∀ j, j < 32 → bt x j = (decide (j < i) && sSt S W a te sz j)) → ∃ y Z1, f93_rulesStriking_h40 n b (i3 (sKd S a)) x (i3 i) Z = some (y, Z1) ∧ eqV Z Z1 ∧ ∀ j, j < 32 → bt y j = (decide (j < sR S) && sSt S W a te sz j)
  | f, i, 0, x, Z, _, hn, _, _, _, _ => by omega
  | 0, i, n + 1, x, Z, hf, _, h, _, _, hx => by
    obtain rfl : i = sR S := by omega
    have o1 := ok_sc ho
    refine ⟨x, Z, ?_, eqV_rf, hx⟩
    rw [f93_rulesStriking_h40, if_pos (is_b (b_b h)), b_R h, if_pos (by rw [c_ge (by omega)]; omega)]
  | f + 1, i, n + 1, x, Z, hf, hn, h, htr, hF, hx => by
    have o1 := ok_sc ho
    have hb := b_b h
    have hi : i < sR S := by omega
    have k1 := kd_bd ho (a := a)
    have k2 := ok_rl ho hi
    have hfb := fk_bd ho (W := W) ha ht hs
    have next : ∀ Z2, eqV Z Z2 → ∃ y Z1, f93_rulesStriking_h40 n b (i3 (sKd S a)) (if sSt S W a te sz i = true then x ||| (i3 1 <<< (i3 i &&& 31)) else x) (i3 ((i + 1 : Nat) : Int)) Z2 = some (y, Z1) ∧ eqV Z Z1 ∧ ∀ j, j < 32 → bt y j = (decide (j < sR S) && sSt S W a te sz j) := by
      intro Z2 e2
      obtain ⟨y, Z1, r1, r2, r3⟩ := e93h ho hoc ha ht hs hwa f (i + 1) n _ Z2 (by omega) (by omega) (cBk_q ho h (eqV_q e2)) (cTr_of htr (eqQ_B hb (eqV_q e2))) (fun k hk => by rw [e2.1]; exact hF k hk) (or_bit3 (by omega) hx)
      exact ⟨y, Z1, r1, eqV_tr e2 r2, r3⟩
    rw [f93_rulesStriking_h40, if_pos (is_b hb), b_R h, if_neg (by rw [c_ge (by omega)]; omega), e20 h ho hi, mjBp_some, i3_s]
    by_cases q2 : sKd S a = S 7 i
    · obtain ⟨_, _, _, _, c5, _⟩ := hoc i 0 hi (by omega)
      obtain ⟨Z1, r1, r2, _⟩ := e85 hb ho hoc hfb htr hi (p := 0) (by omega) (c5 rfl) hF
      rw [show i3 ((0 : Nat) : Int) = 0 from rfl] at r1
      rw [if_neg (by rw [c_ne (by omega)]; omega), r1, mjBd_some, show (1 : Int32) = i3 1 from rfl]
      by_cases q3 : vS S (sFk S W a te sz) (sTo S i 0 - 1) = 1
      · rw [if_pos q3, if_neg (by decide), if_pos (is_b1 hb)]
        have e92' := e92 hb ho hoc (cTr_of htr (eqQ_B hb (eqV_q r2))) hi (p := 1) (by omega)
        rw [show i3 ((1 : Nat) : Int) = i3 1 from rfl] at e92'
        rw [e92', mjBp_some]
        by_cases q4 : sFr S i 1 < sTo S i 1
        · obtain ⟨Z3, s1, s2, _⟩ := e85 hb ho hoc hfb (cTr_of htr (eqQ_B hb (eqV_q r2))) hi (p := 1) (by omega) q4 (fun k hk => by rw [r2.1]; exact hF k hk)
          rw [show i3 ((1 : Nat) : Int) = i3 1 from rfl] at s1
          rw [if_pos q4, if_neg (by decide), s1, mjBd_some]
          have n2 := next Z3 (eqV_tr r2 s2)
          by_cases q5 : vS S (sFk S W a te sz) (sTo S i 1 - 1) = 1
          · have e : sSt S W a te sz i = false := by simp [sSt, sHo, hasEx, q4, q5]
            rw [e, if_neg (by decide)] at n2
            rw [if_pos q5, if_pos (by decide)]
            exact n2
          · have e : sSt S W a te sz i = true := by simp [sSt, sHo, hasEx, q2, q3, q5, hwa]
            rw [e, if_pos rfl] at n2
            rw [if_neg q5, if_neg (by decide)]
            exact n2
        · have n2 := next Z1 r2
          have e : sSt S W a te sz i = true := by simp [sSt, sHo, hasEx, q2, q3, hwa, q4]
          rw [e, if_pos rfl] at n2
          rw [if_neg q4, if_pos (by decide)]
          exact n2
      · have n2 := next Z1 r2
        have e : sSt S W a te sz i = false := by simp [sSt, sHo, q3]
        rw [e, if_neg (by decide)] at n2
        rw [if_neg q3, if_pos (by decide)]
        exact n2
    · have n2 := next Z eqV_rf
      have e : sSt S W a te sz i = false := by simp [sSt, q2]
      rw [e, if_neg (by decide)] at n2
      rw [if_pos (by rw [c_ne (by omega)]; omega)]
      exact n2
theorem e93 (ho : okS S) (hoc : okC S) {W : Nat → Bool} {w : Int64} {a : Nat} (ha : a < sAll S) {te sz : Int} (ht : 0 ≤ te ∧ te ≤ 9999) (hs : 0 ≤ sz ∧ sz ≤ 9999) {Z : mjZt} (h : cBk Z b S) (hd : cDr Z b S) (htr : cTr Z b S) (hw : ∀ j, j < sAll S → b6 w j = W j) : ∃ y Z1, f93_rulesStriking b (i3 a) (i3 te) (i3 sz) w Z = some (y, Z1) ∧ eqQ Z Z1 ∧ (∀ a2, a2 ≠ 191 → Z1.1 a2 = Z.1 a2) ∧ (∀ a2, a2 ≠ 192 → Z1.2.1 a2 = Z.2.1 a2) ∧ ∀ j, j < 32 → bt y j = (decide (j < sR S) && sSt S W a te sz j) := by
  have o2 := all_le ho
  have hb := b_b h
  unfold f93_rulesStriking
  rw [show (1 : Int64) = i6 1 from rfl, b6_test (by omega), hw a ha]
  cases q : W a with
  | true =>
    refine ⟨i3 0, Z, rfl, eqQ_rf, fun _ _ => rfl, fun _ _ => rfl, fun j hj => ?_⟩
    rw [bt_0]; simp [sSt, q]
  | false =>
    obtain ⟨Z1, r1, r2, r3⟩ := e74 h hd ho ha ht (sz := sz) hw
    have hA := cBk_q ho h (eqF_q r2)
    have hB := cDr_q ho hb hd (eqF_q r2)
    obtain ⟨y, Z2, s1, s2, s3⟩ := e93h ho hoc ha ht hs q (sR S) 0 mjF 0 Z1 (by omega) (by have := ok_sc ho; unfold mjF; omega) hA (cTr_of htr (eqQ_B hb (eqF_q r2))) r3 (fun j _ => by rw [show (0 : Int32) = i3 0 from rfl, bt_0]; simp)
    refine ⟨y, Z2, ?_, eqQ_tr (eqF_q r2) (eqV_q s2), fun a2 h2 => by rw [s2.1, r2.2 a2 h2], fun a2 h2 => by rw [s2.2.2 a2 h2, r2.1], s3⟩
    rw [if_pos (by decide), r1, mjBd_some, if_pos (is_b hb), e6 hb (by omega), mjBp_some, if_pos (is_ac hb a (by omega)), (d_ac hB ha).1]
    exact s1
end RU9
