/-! THE VERDICT, of the model -/
def mVd (Z : mjZt) (S : mjS) (W : Nat → Bool) (n : Nat) : Prop :=
  (∀ a, a < n → Z.1 247 a = i3 (if stk S W a = true then 1 else 0)) ∧ ∀ t, t < sT S → Z.1 248 t = i3 (if sHi S W n t = true then 1 else 0) ∧ Z.1 249 t = i3 (if sIp S W n t = true then 1 else 0) ∧ Z.1 250 t = i3 (sWd S W t n)
section LY
variable {S : mjS} {W : Nat → Bool}
theorem mVd_of {Z Z2 : mjZt} {n : Nat} (h : mVd Z S W n) (e : ∀ a, 247 ≤ a → a ≤ 250 → Z2.1 a = Z.1 a) : mVd Z2 S W n := by
  unfold mVd
  rw [e 247 (by omega) (by omega), e 248 (by omega) (by omega), e 249 (by omega) (by omega), e 250 (by omega) (by omega)]
  exact h
theorem m302j (hk : okS S) (R : Int32 → mjZt → Option (Unit × mjZt)) {i : Nat} (hi : i < sAll S) {Z : mjZt} (hm : mRep Z S) (hV : mVd Z S W i) : ∃ Z1, f302_laysStruck_j70 R (i3 i) (i3 i) (i3 (if stk S W i = true then 1 else 0)) Z = R (i3 ((i + 1 : Nat) : Int)) Z1 ∧ eqQ Z Z1 ∧ mVd Z1 S W (i + 1) := by
  have o1 := ok_sc hk
  have oa := all_le hk
  have t2 := tmA_lt hk hi
  have kb := kd_bd hk (a := i)
  obtain ⟨v1, v2⟩ := hV
  have e1 : ∀ x, eqQ Z (zSi Z 247 i x) := fun x => eqQ_si (by omega)
  have hi1 : ∀ t, sHi S W (i + 1) t = (sHi S W i t || (stk S W i && decide (sTmA S i = t))) := fun t => rfl
  have ip1 : ∀ t, sIp S W (i + 1) t = (sIp S W i t || (stk S W i && decide (sKd S i = 3 ∧ sOt S i = t))) := fun t => rfl
  unfold f302_laysStruck_j70
  rw [if_pos (in_p (by omega)), if_pos (by split <;> first | exact Or.inr rfl | exact Or.inl rfl), ix_nat (by omega), let_eq, if_pos (in_p (by omega)), si_same, show (0 : Int32) = i3 0 from rfl, i3_s]
  cases q : stk S W i with
  | false =>
    refine ⟨zSi Z 247 i (i3 0), by rw [if_neg (by decide), if_neg (by decide)], e1 _, fun a ha => ?_, fun t ht => ?_⟩
    · by_cases q2 : a = i
      · subst q2; rw [si_same, q]; rfl
      · rw [si_fld _ _ _ _ (by omega)]; exact v1 a (by omega)
    · rw [si_obj _ _ _ _ (by omega), si_obj _ _ _ _ (by omega), si_obj _ _ _ _ (by omega), hi1, ip1, q, sWd, q]
      simp only [Bool.false_and, Bool.or_false, Bool.false_eq_true, false_and, if_false, Int.sub_zero]
      exact v2 t ht
  | true =>
    have e2 : eqQ Z (zSi (zSi Z 247 i (i3 1)) 248 (sTmA S i) (i3 1)) := eqQ_tr (e1 _) (eqQ_si (by omega))
    have h8 : ∀ t, t < sT S → (if t = sTmA S i then i3 1 else Z.1 248 t) = i3 (if sHi S W (i + 1) t = true then 1 else 0) := by
      intro t ht
      rw [hi1, q, Bool.true_and, (v2 t ht).1]
      by_cases q2 : t = sTmA S i
      · rw [if_pos q2, decide_eq_true q2.symm, Bool.or_true, if_pos rfl]
      · rw [if_neg q2, decide_eq_false (fun g => q2 g.symm), Bool.or_false]
    rw [if_pos rfl, if_pos (by decide), m274 (mRep_q hm (e1 _)) hk hi, mjBp_some, if_pos (in_p (by omega)), ix_nat (by omega), let_eq, show (1 : Int32) = i3 1 from rfl, m273 (mRep_q hm e2) hk hi, mjBp_some, show (3 : Int32) = i3 3 from rfl]
    rcases ot_cases hk (a := i) with ⟨q1, q2⟩ | ⟨c, q1, q2, q3, q4, q5⟩
    · refine ⟨_, by rw [if_neg (by rw [c_eq (by omega)]; omega)], e2, fun a ha => ?_, fun t ht => ?_⟩
      · rw [si_obj _ _ _ _ (by omega)]
        by_cases q2 : a = i
        · subst q2; rw [si_same, q]; rfl
        · rw [si_fld _ _ _ _ (by omega)]; exact v1 a (by omega)
      · have w9 : (zSi (zSi Z 247 i (i3 1)) 248 (sTmA S i) (i3 1)).1 249 = Z.1 249 := by rw [si_obj _ _ _ _ (by omega), si_obj _ _ _ _ (by omega)]
        have w5 : (zSi (zSi Z 247 i (i3 1)) 248 (sTmA S i) (i3 1)).1 250 = Z.1 250 := by rw [si_obj _ _ _ _ (by omega), si_obj _ _ _ _ (by omega)]
        rw [w9, w5, ip1, sWd]
        have w0 : (zSi (zSi Z 247 i (i3 1)) 248 (sTmA S i) (i3 1)).1 248 t = (if t = sTmA S i then i3 1 else Z.1 248 t) := by
          by_cases q7 : t = sTmA S i
          · subst q7; rw [si_same, if_pos rfl]
          · rw [si_fld _ _ _ _ (by omega), si_obj _ _ _ _ (by omega), if_neg q7]
        have z : (if stk S W i = true ∧ sKd S i = 3 ∧ sOt S i = (t : Int) then sSz S i else 0) = 0 := if_neg (fun g => q2 g.2.1)
        rw [w0, h8 t ht, decide_eq_false (fun g : sKd S i = 3 ∧ sOt S i = (t : Int) => q2 g.1), Bool.and_false, Bool.or_false, z, Int.sub_zero]
        exact ⟨rfl, (v2 t ht).2⟩
    · have e3 : ∀ x, eqQ Z (zSi (zSi (zSi Z 247 i (i3 1)) 248 (sTmA S i) (i3 1)) 249 c x) := fun x => eqQ_tr e2 (eqQ_si (by omega))
      have wb := wd_bd (W := W) hk c q2 i (by omega)
      have sb := sz_bd hk hi
      refine ⟨zSi (zSi (zSi (zSi Z 247 i (i3 1)) 248 (sTmA S i) (i3 1)) 249 c (i3 1)) 250 c (i3 (sWd S W c i - sSz S i)), ?_, eqQ_tr (e3 _) (eqQ_si (by omega)), fun a ha => ?_, fun t ht => ?_⟩
      · rw [if_pos (by rw [c_eq (by omega)]; omega), m275 (mRep_q hm e2) hk hi, mjBp_some, q1, if_pos (in_p (by omega)), ix_nat (by omega), let_eq, m275 (mRep_q hm (e3 _)) hk hi, mjBp_some, q1, if_pos (in_p (by omega)), m277 (mRep_q hm (e3 _)) hk hi, mjBp_some, ix_nat (by omega), let_eq, si_obj _ _ _ _ (by omega), si_obj _ _ _ _ (by omega), si_obj _ _ _ _ (by omega), (v2 c q2).2.2, i3_sub]
      · rw [si_obj _ _ _ _ (by omega), si_obj _ _ _ _ (by omega), si_obj _ _ _ _ (by omega)]
        by_cases q2 : a = i
        · subst q2; rw [si_same, q]; rfl
        · rw [si_fld _ _ _ _ (by omega)]; exact v1 a (by omega)
      · have w0 : (zSi (zSi (zSi (zSi Z 247 i (i3 1)) 248 (sTmA S i) (i3 1)) 249 c (i3 1)) 250 c (i3 (sWd S W c i - sSz S i))).1 248 t = (if t = sTmA S i then i3 1 else Z.1 248 t) := by
          rw [si_obj _ _ _ _ (by omega), si_obj _ _ _ _ (by omega)]
          by_cases q7 : t = sTmA S i
          · subst q7; rw [si_same, if_pos rfl]
          · rw [si_fld _ _ _ _ (by omega), si_obj _ _ _ _ (by omega), if_neg q7]
        rw [w0, h8 t ht, ip1, sWd, q]
        refine ⟨rfl, ?_, ?_⟩
        · rw [si_obj _ _ _ _ (by omega)]
          by_cases q7 : t = c
          · subst q7; rw [si_same, decide_eq_true ⟨q4, q1⟩, Bool.true_and, Bool.or_true, if_pos rfl]
          · rw [si_fld _ _ _ _ (by omega), si_obj _ _ _ _ (by omega), si_obj _ _ _ _ (by omega), decide_eq_false (by omega), Bool.and_false, Bool.or_false]; exact (v2 t ht).2.1
        · by_cases q7 : t = c
          · subst q7; rw [si_same, if_pos ⟨rfl, q4, q1⟩]
          · rw [si_fld _ _ _ _ (by omega), si_obj _ _ _ _ (by omega), si_obj _ _ _ _ (by omega), si_obj _ _ _ _ (by omega), if_neg (by omega), Int.sub_zero]; exact (v2 t ht).2.2
theorem m302b (hk : okS S) (hoc : okC S) : ∀ f i n (Z : mjZt), i + f = sAll S → f < n → mRep Z S → mWv Z S W → mVd Z S W i → ∃ Z1, f302_laysStruck_h43 n (i3 i) Z = some ((), Z1) ∧ eqQ Z Z1 ∧ mVd Z1 S W (sAll S)
  | f, i, 0, _, _, hn, _, _, _ => by omega
  | 0, i, n + 1, Z, hf, _, hm, hW, hV => by
    obtain rfl : i = sAll S := by omega
    have := all_le hk
    exact ⟨Z, by rw [f302_laysStruck_h43, m251 hm hk, mjBp_some, if_pos (by rw [c_ge (by omega)]; omega)], eqQ_rf, hV⟩
  | f + 1, i, n + 1, Z, hf, hn, hm, hW, hV => by
    have oa := all_le hk
    have hi : i < sAll S := by omega
    obtain ⟨Z1, r1, r2⟩ := m298p hk hoc hi hm hW
    obtain ⟨Z2, s1, s2, s3⟩ := m302j hk (f302_laysStruck_h43 n) hi (mRep_q hm r2.1) (mVd_of hV (fun a h1 h2 => r2.2 a (by omega)))
    have e2 := eqQ_tr r2.1 s2
    obtain ⟨Z3, t1, t2, t3⟩ := m302b hk hoc f (i + 1) n Z2 (by omega) (by omega) (mRep_q hm e2) (mWv_q hW e2) s3
    refine ⟨Z3, ?_, eqQ_tr e2 t2, t3⟩
    rw [t1] at s1
    have fb := fI_bd (fun r => sSt S W i (sTe S i) (sSz S i) r) (sR S) 0
    have o1 := ok_sc hk
    rw [f302_laysStruck_h43, m251 hm hk, mjBp_some, if_neg (by rw [c_ge (by omega)]; omega), r1, mjBd_some, show (-1 : Int32) = i3 (-1) from rfl]
    by_cases q : fRu S W i (sTe S i) (sSz S i) = -1
    · rw [show stk S W i = false from decide_eq_false (by omega)] at s1
      rw [if_pos (by rw [q]; decide)]
      exact s1
    · rw [show stk S W i = true from decide_eq_true q] at s1
      rw [if_neg (by unfold fRu at q ⊢; rw [c_eq (by omega)]; omega)]
      exact s1
theorem m302a (hk : okS S) (hoc : okC S) : ∀ f i n (Z : mjZt), i + f = sT S → f < n → mRep Z S → mWv Z S W → (∀ t, t < i → Z.1 248 t = i3 0 ∧ Z.1 249 t = i3 0 ∧ Z.1 250 t = i3 (sTm S t)) → ∃ Z1, f302_laysStruck_h2 n (i3 i) Z = some ((), Z1) ∧ eqQ Z Z1 ∧ mVd Z1 S W (sAll S)
  | f, i, 0, _, _, hn, _, _, _ => by omega
  | 0, i, n + 1, Z, hf, _, hm, hW, hp => by
    obtain rfl : i = sT S := by omega
    have o1 := ok_sc hk
    obtain ⟨Z1, r1, r2, r3⟩ := m302b (W := W) hk hoc (sAll S) 0 mjF Z (by omega) (by have := all_le hk; unfold mjF; omega) hm hW ⟨fun a ha => by omega, fun t ht => hp t ht⟩
    exact ⟨Z1, by rw [f302_laysStruck_h2, m_T hm, if_pos (by rw [c_ge (by omega)]; omega)]; exact r1, r2, r3⟩
  | f + 1, i, n + 1, Z, hf, hn, hm, hW, hp => by
    have o1 := ok_sc hk
    have e1 : eqQ Z (zSi (zSi Z 248 i (i3 0)) 249 i (i3 0)) := eqQ_tr (eqQ_si (by omega)) (eqQ_si (by omega))
    have e2 : eqQ Z (zSi (zSi (zSi Z 248 i (i3 0)) 249 i (i3 0)) 250 i (i3 (sTm S i))) := eqQ_tr e1 (eqQ_si (by omega))
    obtain ⟨Z1, r1, r2, r3⟩ := m302a hk hoc f (i + 1) n _ (by omega) (by omega) (mRep_q hm e2) (mWv_q hW e2) (fun t ht => by
      by_cases q : t = i
      · subst q
        rw [si_obj _ _ _ _ (by omega), si_obj _ _ _ _ (by omega), si_same, si_obj _ _ _ _ (by omega), si_same, si_same]
        exact ⟨rfl, rfl, rfl⟩
      · rw [si_obj _ _ _ _ (by omega), si_obj _ _ _ _ (by omega), si_fld _ _ _ _ (by omega), si_obj _ _ _ _ (by omega), si_fld _ _ _ _ (by omega), si_obj _ _ _ _ (by omega), si_fld _ _ _ _ (by omega), si_obj _ _ _ _ (by omega), si_obj _ _ _ _ (by omega)]
        exact hp t (by omega))
    refine ⟨Z1, ?_, eqQ_tr e2 r2, r3⟩
    rw [f302_laysStruck_h2, m_T hm, if_neg (by rw [c_ge (by omega)]; omega), if_pos (in_p (by omega)), ix_nat (by omega), let_eq, let_eq, show (0 : Int32) = i3 0 from rfl, m246 (mRep_q hm e1) hk (by omega), mjBp_some, let_eq, i3_s]
    exact r1
theorem m302 (hk : okS S) (hoc : okC S) {Z : mjZt} (hm : mRep Z S) (hW : mWv Z S W) : ∃ Z1, f302_laysStruck Z = some ((), Z1) ∧ eqQ Z Z1 ∧ mVd Z1 S W (sAll S) := by
  have o1 := ok_sc hk
  exact m302a hk hoc (sT S) 0 mjF Z (by omega) (by unfold mjF; omega) hm hW (fun t ht => by omega)
/-! what rests on it -/
variable {Z : mjZt}
theorem m304 (hk : okS S) (hm : mRep Z S) (hV : mVd Z S W (sAll S)) {t : Nat} (ht : t < sT S) : f304_isInResult (i3 t) Z = some (i3 (if sIn S W t = true then 1 else 0)) := by
  have o1 := ok_sc hk
  unfold f304_isInResult
  rw [m247 hm hk ht, mjBp_some]
  by_cases q : sTd S t = sLg S
  · rw [if_pos q, if_neg (by decide), if_pos (in_p (by omega)), ix_nat (by omega), (hV.2 t ht).1]
    unfold sIn
    rw [decide_eq_true ht, decide_eq_true q]
    cases sHi S W (sAll S) t <;> rfl
  · unfold sIn
    rw [if_neg q, if_pos (by decide), decide_eq_false q]
    simp; rfl
theorem m305h (hk : okS S) (hm : mRep Z S) (hV : mVd Z S W (sAll S)) {t : Nat} (ht : t < sT S) : ∀ f i n, i + f = sT S → f < n → f305_rankOf_h4 n (i3 t) (i3 (1 + cN (fun o => sIn S W o && decide (sTm S o < sTm S t)) i)) (i3 i) Z = some (i3 (sRk S W t))
  | f, i, 0, _, hn => by omega
  | 0, i, n + 1, hf, _ => by
    obtain rfl : i = sT S := by omega
    have o1 := ok_sc hk
    rw [f305_rankOf_h4, m_T hm, if_pos (by rw [c_ge (by omega)]; omega)]
    rfl
  | f + 1, i, n + 1, hf, hn => by
    have o1 := ok_sc hk
    have ih := m305h hk hm hV ht f (i + 1) n (by omega) (by omega)
    have t1 := tm_bd hk (t := i) (by omega)
    have t2 := tm_bd hk ht
    rw [cN] at ih
    rw [f305_rankOf_h4, m_T hm, if_neg (by rw [c_ge (by omega)]; omega), m304 hk hm hV (by omega), mjBp_some, show (0 : Int32) = i3 0 from rfl, show (1 : Int32) = i3 1 from rfl, show i3 (i : Int) + i3 1 = i3 ((i + 1 : Nat) : Int) from i3_s i]
    by_cases q : sIn S W i = true
    · rw [if_pos q, if_neg (by decide), m246 hm hk (by omega), mjBp_some, m246 hm hk ht, mjBp_some]
      rw [q, Bool.true_and] at ih
      by_cases q2 : sTm S i < sTm S t
      · rw [decide_eq_true q2, if_pos rfl, ← Int.add_assoc] at ih
        rw [if_neg (by rw [c_ge (by omega)]; omega), m196_1, mjBp_some, i3_add]
        exact ih
      · rw [decide_eq_false q2, if_neg (by decide), Int.add_zero] at ih
        rw [if_pos (by rw [c_ge (by omega)]; omega), m196_0, mjBp_some, i3_add, Int.add_zero]
        exact ih
    · simp at q
      rw [q, Bool.false_and, if_neg (by decide), Int.add_zero] at ih
      rw [q, if_pos (by decide), m196_0, mjBp_some, i3_add, Int.add_zero]
      exact ih
theorem m305 (hk : okS S) (hm : mRep Z S) (hV : mVd Z S W (sAll S)) {t : Nat} (ht : t < sT S) : f305_rankOf (i3 t) Z = some (i3 (sRk S W t)) :=
  m305h hk hm hV ht (sT S) 0 mjF (by omega) (by have := ok_sc hk; unfold mjF; omega)
theorem m312 (hk : okS S) (hm : mRep Z S) (hV : mVd Z S W (sAll S)) {t : Nat} (ht : t < sT S) : f312_isThrough (i3 t) Z = some (i3 (if sThr S W t = true then 1 else 0)) := by
  have o1 := ok_sc hk
  have rb := rk_bd hk (W := W) t
  have ow := ok_tw hk
  unfold f312_isThrough
  rw [m304 hk hm hV ht, mjBp_some]
  by_cases q : sIn S W t = true
  · rw [if_pos q, if_neg (by decide), m305 hk hm hV ht, mjBp_some, m_th hm]
    unfold sThr
    rw [q, Bool.true_and]
    unfold sTh at ow ⊢
    by_cases q2 : sRk S W t ≤ S 10 3
    · rw [if_neg (by rw [c_gt (by omega)]; omega), decide_eq_true q2]; rfl
    · rw [if_pos (by rw [c_gt (by omega)]; omega), decide_eq_false q2]; rfl
  · simp at q
    unfold sThr
    rw [q, if_pos (by decide), Bool.false_and]; rfl
end LY
