/-! QUERIES: struckBy, rank, fairRank, would -/
section Q86
variable {b o : Nat} {S : mjS} {W : Nat → Bool} {Z Zm : mjZt}
theorem e142 (hk : okS S) (hv : vRep Z o S W) (ho : o = 199 ∨ o = 204) {a : Nat} (ha : a < sAll S) : f142_rulesStriking o (i3 a) Z = some (Z.1 (o + 1) a) := by
  obtain ⟨p0, p1, p2, p3, p4, l1, l2, l3, l4⟩ := is_o ho
  have oa := all_le hk
  unfold f142_rulesStriking
  rw [if_pos p0, e5 p1 l1 (by omega) (by omega), mjBp_some, Int.toNat_natCast]
theorem q_struckBy (hb : Z.2.2.1 = b) (h : cBk Z b S) (hd : cDr Z b S) (ho : okS S) (hoc : okC S) (hm : mRep Zm S) (hW : mWv Zm S (sW S)) (hv : vRep Z 199 S (sW S)) (x y : Int32) : ∃ v, f176_struckBy x y Z = some v ∧ ∃ Z2, f297_struckBy x y Zm = some (v, Z2) ∧ eqQ Zm Z2 := by
  have hb2 := b_b h
  have o1 := ok_sc ho
  unfold f176_struckBy f297_struckBy
  rw [hb]
  rcases ac_cases S x with ⟨a, rfl, ha⟩ | ⟨a, rfl, ha⟩
  · rcases rl_cases S y with ⟨r, rfl, hr⟩ | ⟨r, rfl, hr⟩
    · obtain ⟨Z1, r1, r2⟩ := m296 ho hoc hm hW ha hr
      refine ⟨i3 (if sSt S (sW S) a (sTe S a) (sSz S a) r = true then 1 else 0), ?_, Z1, ?_, r2⟩
      · rw [if_pos (is_b hb2), e17t h hd ho ha, mjBp_some, if_neg (by decide), e16t h ho hr, mjBp_some, if_pos (by decide), e142 ho hv (by omega) ha, mjBp_some, show (1 : Int32) = i3 1 from rfl, bt_test (by omega), hv.1 a ha r (by omega), decide_eq_true hr, Bool.true_and]
      · rw [m270t hm ho ha, mjBp_some, if_neg (by decide), m291t ho hm hr, mjBp_some, if_neg (by decide), r1, mjBd_some]
        cases sSt S (sW S) a (sTe S a) (sSz S a) r
        · rw [if_neg (by decide), m196_0]; rfl
        · rw [if_pos rfl, m196_1]; rfl
    · refine ⟨i3 (-2000000), ?_, Zm, ?_, eqQ_rf⟩
      · rw [if_pos (is_b hb2), e17t h hd ho ha, mjBp_some, if_neg (by decide), e16f h ho hr, mjBp_some, if_neg (by decide)]; rfl
      · rw [m270t hm ho ha, mjBp_some, if_neg (by decide), m291f ho hm hr, mjBp_some, if_pos (by decide)]; rfl
  · refine ⟨i3 (-2000000), ?_, Zm, ?_, eqQ_rf⟩
    · rw [if_pos (is_b hb2), e17f h hd ho ha, mjBp_some, if_pos (by decide)]; rfl
    · rw [m270f hm ho ha, mjBp_some, if_pos (by decide)]; rfl
theorem vR_K (hk : okS S) (hv : vRep Z o S W) (hT : 0 < sT S) : vK Z o S W 6 := by
  have o1 := ok_sc hk
  obtain ⟨v1, v2, v3, v4⟩ := hv
  refine ⟨v3 hT, fun j hj => ?_⟩
  rw [(v4 j hj).2.2.2.2]
  by_cases q : j < 6
  · rw [decide_eq_true q, Bool.true_and]
  · have : sWh S j = false := decide_eq_false (by omega)
    rw [this, Bool.and_false]
theorem q_rank (hb : Z.2.2.1 = b) (h : cBk Z b S) (ho : okS S) (hoc : okC S) (hm : mRep Zm S) (hW : mWv Zm S (sW S)) (hv : vRep Z 199 S (sW S)) (x : Int32) : ∃ v, f180_rank x Z = some v ∧ ∃ Z2, f306_rank x Zm = some (v, Z2) ∧ eqQ Zm Z2 := by
  have hb2 := b_b h
  have o1 := ok_sc ho
  unfold f180_rank f306_rank
  rw [hb]
  rcases tm_cases S x with ⟨t, rfl, ht⟩ | ⟨t, rfl, ht⟩
  · obtain ⟨Z1, r1, r2, r3⟩ := m302 ho hoc hm hW
    have hK := vR_K ho hv (by omega)
    refine ⟨if sIn S (sW S) t = true then i3 (sRk S (sW S) t) else i3 (-2), ?_, Z1, ?_, r2⟩
    · rw [if_pos (is_b hb2), e7t h ho ht, mjBp_some, if_neg (by decide)]
      unfold f137_rankByTime
      rw [if_pos (is_o (by omega)).1, e133 (by omega) ho hK (by omega), mjBp_some]
      by_cases q : sIn S (sW S) t = true
      · rw [if_pos q, if_neg (by decide), e134t (by omega) ho hK (by omega) q, mjBp_some, mjBp_some, if_pos q]
      · rw [if_neg q, if_pos (by decide), mjBp_some, if_neg q]; rfl
    · rw [m240t hm ho ht, mjBp_some, if_pos (by decide), r1, mjBd_some, m304 ho (mRep_q hm r2) r3 ht, mjBp_some]
      by_cases q : sIn S (sW S) t = true
      · rw [if_pos q, if_neg (by decide), m305 ho (mRep_q hm r2) r3 ht, mjBp_some, if_pos q]
      · rw [if_neg q, if_pos (by decide), if_neg q]; rfl
  · refine ⟨i3 (-1), ?_, Zm, ?_, eqQ_rf⟩
    · rw [if_pos (is_b hb2), e7f h ho ht, mjBp_some, if_pos (by decide)]; rfl
    · rw [m240f hm ho ht, mjBp_some, if_neg (by decide)]; rfl
theorem m307h (hk : okS S) (hm : mRep Z S) (hV : mVd Z S W (sAll S)) {t : Nat} (ht : t < sT S) : ∀ f i n, i + f = sT S → f < n → f307_fairRank_h29 n (i3 t) (i3 (1 + cN (fun o => sIn S W o && decide (sWo S W o < sWo S W t)) i)) (i3 i) Z = some (i3 (1 + cN (fun o => sIn S W o && decide (sWo S W o < sWo S W t)) (sT S)), Z)
  | f, i, 0, _, hn => by omega
  | 0, i, n + 1, hf, _ => by
    obtain rfl : i = sT S := by omega
    have o1 := ok_sc hk
    rw [f307_fairRank_h29, m_T hm, if_pos (by rw [c_ge (by omega)]; omega)]
  | f + 1, i, n + 1, hf, hn => by
    have o1 := ok_sc hk
    have oa := all_le hk
    have ih := m307h hk hm hV ht f (i + 1) n (by omega) (by omega)
    have t1 := wd_bd (W := W) hk i (by omega) (sAll S) (Nat.le_refl _)
    have t2 := wd_bd (W := W) hk t ht (sAll S) (Nat.le_refl _)
    rw [cN] at ih
    rw [f307_fairRank_h29, m_T hm, if_neg (by rw [c_ge (by omega)]; omega), m304 hk hm hV (by omega), mjBp_some, show (0 : Int32) = i3 0 from rfl, show (1 : Int32) = i3 1 from rfl, show i3 (i : Int) + i3 1 = i3 ((i + 1 : Nat) : Int) from i3_s i]
    unfold sWo at ih ⊢
    by_cases q : sIn S W i = true
    · rw [if_pos q, if_neg (by decide), if_pos (in_p (by omega)), if_pos (in_p (by omega)), ix_nat (by omega), ix_nat (by omega), (hV.2 i (by omega)).2.2, (hV.2 t ht).2.2]
      rw [q, Bool.true_and] at ih
      by_cases q2 : sWd S W i (sAll S) < sWd S W t (sAll S)
      · rw [decide_eq_true q2, if_pos rfl, ← Int.add_assoc] at ih
        rw [if_neg (by rw [c_ge (by omega)]; omega), m196_1, mjBp_some, i3_add]
        exact ih
      · rw [decide_eq_false q2, if_neg (by decide), Int.add_zero] at ih
        rw [if_pos (by rw [c_ge (by omega)]; omega), m196_0, mjBp_some, i3_add, Int.add_zero]
        exact ih
    · simp at q
      rw [q, Bool.false_and, if_neg (by decide), Int.add_zero] at ih
      rw [q, if_pos (by decide), m196_0, mjBp_some, i3_add, Int.add_zero]
      exact ih
theorem q_fairRank (hb : Z.2.2.1 = b) (h : cBk Z b S) (ho : okS S) (hoc : okC S) (hm : mRep Zm S) (hW : mWv Zm S (sW S)) (hv : vRep Z 199 S (sW S)) (x : Int32) : ∃ v, f184_fairRank x Z = some v ∧ ∃ Z2, f307_fairRank x Zm = some (v, Z2) ∧ eqQ Zm Z2 := by
  have hb2 := b_b h
  have o1 := ok_sc ho
  unfold f184_fairRank f307_fairRank
  rw [hb]
  rcases tm_cases S x with ⟨t, rfl, ht⟩ | ⟨t, rfl, ht⟩
  · obtain ⟨Z1, r1, r2, r3⟩ := m302 ho hoc hm hW
    have hK := vR_K ho hv (by omega)
    have oa := all_le ho
    refine ⟨if sIn S (sW S) t = true then i3 (1 + cN (fun o => sIn S (sW S) o && decide (sWo S (sW S) o < sWo S (sW S) t)) (sT S)) else i3 (-2), ?_, Z1, ?_, r2⟩
    · rw [if_pos (is_b hb2), e7t h ho ht, mjBp_some, if_neg (by decide)]
      unfold f138_rankByWould
      rw [if_pos (is_o (by omega)).1, e133 (by omega) ho hK (by omega), mjBp_some]
      by_cases q : sIn S (sW S) t = true
      · have e := e134 (Z := Z) (K := 199 + 4) (by decide) (by decide) (fun t ht => (hv.2.2.1 (by omega) t ht).2) (fun t _ => by
          by_cases q : sIn S (sW S) t = true
          · have := wd_bd (W := sW S) ho t (in_lt q).1 (sAll S) (Nat.le_refl _)
            rw [if_pos q]; unfold sWo; omega
          · rw [if_neg q]; omega) (show t < 6 by omega)
        rw [rk_eq ho (fun t ht => by have := wd_bd (W := sW S) ho t ht (sAll S) (Nat.le_refl _); unfold sWo; omega) q] at e
        rw [if_pos q, if_neg (by decide), e, mjBp_some, mjBp_some, if_pos q]
      · rw [if_neg q, if_pos (by decide), mjBp_some, if_neg q]; rfl
    · rw [m240t hm ho ht, mjBp_some, if_pos (by decide), r1, mjBd_some, m304 ho (mRep_q hm r2) r3 ht, mjBp_some]
      by_cases q : sIn S (sW S) t = true
      · have e := m307h ho (mRep_q hm r2) r3 ht (sT S) 0 mjF (by omega) (by unfold mjF; omega)
        rw [if_pos q, if_pos (by decide), if_pos q]
        exact e
      · rw [if_neg q, if_neg (by decide), if_neg q]; rfl
  · refine ⟨i3 (-1), ?_, Zm, ?_, eqQ_rf⟩
    · rw [if_pos (is_b hb2), e7f h ho ht, mjBp_some, if_pos (by decide)]; rfl
    · rw [m240f hm ho ht, mjBp_some, if_neg (by decide)]; rfl
theorem q_would (hb : Z.2.2.1 = b) (h : cBk Z b S) (ho : okS S) (hoc : okC S) (hm : mRep Zm S) (hW : mWv Zm S (sW S)) (hv : vRep Z 199 S (sW S)) (x : Int32) : ∃ v, f183_would x Z = some v ∧ ∃ Z2, f315_would x Zm = some (v, Z2) ∧ eqQ Zm Z2 := by
  have hb2 := b_b h
  have o1 := ok_sc ho
  unfold f183_would f315_would
  rw [hb]
  rcases tm_cases S x with ⟨t, rfl, ht⟩ | ⟨t, rfl, ht⟩
  · obtain ⟨Z1, r1, r2, r3⟩ := m302 ho hoc hm hW
    refine ⟨if sTd S t = sLg S then i3 (sWo S (sW S) t) else i3 (-2), ?_, Z1, ?_, r2⟩
    · rw [if_pos (is_b hb2), e7t h ho ht, mjBp_some, if_pos (by decide), e23 h ho ht, mjBp_some]
      by_cases q : sTd S t = sLg S
      · unfold f139_wouldOf
        rw [if_pos q, if_neg (by decide), if_pos (is_o (by omega)).1, e5 (n := 6) (by decide) (by decide) (by omega) (by omega), mjBp_some, mjBp_some, Int.toNat_natCast, hv.2.1 t ht, if_pos q]
      · rw [if_neg q, if_pos (by decide), if_neg q]; rfl
    · rw [m240t hm ho ht, mjBp_some, if_pos (by decide), r1, mjBd_some, m247 (mRep_q hm r2) ho ht, mjBp_some]
      by_cases q : sTd S t = sLg S
      · rw [if_pos q, if_neg (by decide), if_pos (in_p (by omega)), ix_nat (by omega), (r3.2 t ht).2.2, if_pos q]; rfl
      · rw [if_neg q, if_pos (by decide), if_neg q]; rfl
  · refine ⟨i3 (-1), ?_, Zm, ?_, eqQ_rf⟩
    · rw [if_pos (is_b hb2), e7f h ho ht, mjBp_some, if_neg (by decide)]; rfl
    · rw [m240f hm ho ht, mjBp_some, if_neg (by decide)]; rfl
end Q86
