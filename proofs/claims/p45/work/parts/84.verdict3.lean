/-! THE VERDICT, of the class: who is through, whom besides -/
section VF
variable {b o : Nat} {S : mjS} {W : Nat → Bool} {Z : mjZt}
theorem e134h {K : Nat} (h1 : mjIs K 211 13 = true) (h2 : (mjLay K).2 = 6) {ky : Nat → Int} (hk : ∀ t, t < 6 → Z.1 K t = i3 (ky t)) (hb : ∀ t, t < 6 → -2147483648 ≤ ky t ∧ ky t ≤ 2147483647) {t : Nat} (ht : t < 6) : ∀ f i n, i + f = 6 → f < n → f134_rankOf_h4 n K (i3 t) (i3 (cN (fun o => decide (ky o < ky t)) i)) (i3 i) Z = some (i3 (1 + cN (fun o => decide (ky o < ky t)) 6))
  | f, i, 0, _, hn => by omega
  | 0, i, n + 1, hf, _ => by
    obtain rfl : i = 6 := by omega
    rw [f134_rankOf_h4, if_pos (by decide), show (1 : Int32) = i3 1 from rfl, i3_add]
  | f + 1, i, n + 1, hf, hn => by
    have ih := e134h h1 h2 hk hb ht f (i + 1) n (by omega) (by omega)
    have b1 := hb i (by omega)
    have b2 := hb t ht
    rw [cN] at ih
    rw [f134_rankOf_h4, show (6 : Int32) = i3 6 from rfl, if_neg (by rw [c_ge (by omega)]; omega), e5 h1 h2 (by omega) (by omega), mjBp_some, e5 h1 h2 (by omega) (by omega), mjBp_some, Int.toNat_natCast, Int.toNat_natCast, hk i (by omega), hk t ht, i3_s, i3_s0]
    by_cases q : ky i < ky t
    · rw [decide_eq_true q, if_pos rfl] at ih
      rw [if_neg (by rw [c_ge (by omega)]; omega)]
      exact ih
    · rw [decide_eq_false q, if_neg (by decide), Int.add_zero] at ih
      rw [if_pos (by rw [c_ge (by omega)]; omega)]
      exact ih
theorem e134 {K : Nat} (h1 : mjIs K 211 13 = true) (h2 : (mjLay K).2 = 6) {ky : Nat → Int} (hk : ∀ t, t < 6 → Z.1 K t = i3 (ky t)) (hb : ∀ t, t < 6 → -2147483648 ≤ ky t ∧ ky t ≤ 2147483647) {t : Nat} (ht : t < 6) : f134_rankOf K (i3 t) Z = some (i3 (1 + cN (fun o => decide (ky o < ky t)) 6)) := by
  have e := e134h h1 h2 hk hb ht 6 0 mjF (by omega) (by decide)
  unfold f134_rankOf
  exact e
theorem in_lt {i : Nat} (h : sIn S W i = true) : i < sT S ∧ sTd S i = sLg S ∧ sHi S W (sAll S) i = false := by
  unfold sIn at h
  simp at h
  exact ⟨h.1, h.2.1, h.2.2⟩
/-- counting among the teams in the result is counting keys -/
theorem rk_eq (hk : okS S) {ky : Nat → Int} (hb : ∀ t, t < sT S → -2147483648 ≤ ky t ∧ ky t < 2147483647) {t : Nat} (ht : sIn S W t = true) : cN (fun o => decide ((if sIn S W o = true then ky o else 2147483647) < (if sIn S W t = true then ky t else 2147483647))) 6 = cN (fun o => sIn S W o && decide (ky o < ky t)) (sT S) := by
  have o1 := ok_sc hk
  have g1 := (in_lt ht).1
  have b1 := hb t g1
  rw [cN_ext (n := sT S) 6 (by omega) (fun i h1 h2 => by
    have : ¬ sIn S W i = true := fun q => by have := (in_lt q).1; omega
    rw [if_neg this, if_pos ht]
    exact decide_eq_false (by omega))]
  refine cN_congr _ (fun i hi => ?_)
  by_cases q : sIn S W i = true
  · rw [if_pos q, if_pos ht, q, Bool.true_and]
  · rw [if_neg q, if_pos ht, decide_eq_false (by omega)]
    simp at q; rw [q, Bool.false_and]
theorem rk_bd (hk : okS S) (t : Nat) : 1 ≤ sRk S W t ∧ sRk S W t ≤ 7 := by
  have o1 := ok_sc hk
  have := cN_bd (fun o => sIn S W o && decide (sTm S o < sTm S t)) (sT S)
  unfold sRk
  omega
theorem thr_in {t : Nat} (h : sThr S W t = true) : sIn S W t = true := by
  unfold sThr at h; simp at h; exact h.1
theorem la_bd (hk : okS S) : ∀ n, 0 ≤ laN S W n ∧ laN S W n ≤ 5994
  | 0 => by simp [laN]
  | n + 1 => by
    have h1 := la_bd hk n
    rw [laN]
    by_cases q : sThr S W n = true ∧ laN S W n < sTm S n
    · have := tm_bd hk (in_lt (thr_in q.1)).1
      rw [if_pos q]; omega
    · rw [if_neg q]; exact h1
theorem la_ext (hk : okS S) : ∀ n, sT S ≤ n → laN S W n = laN S W (sT S)
  | 0, h => by rw [show sT S = 0 by omega]
  | n + 1, h => by
    by_cases q : sT S = n + 1
    · rw [q]
    · rw [laN, if_neg, la_ext hk n (by omega)]
      intro q2
      have := (in_lt (thr_in q2.1)).1
      omega
theorem e133 (ho : o = 199 ∨ o = 204) (hk : okS S) (hK : vK Z o S W 6) {t : Nat} (ht : t < 6) : f133_isIn o (i3 t) Z = some (i3 (if sIn S W t = true then 1 else 0)) := by
  obtain ⟨p0, p1, p2, p3, p4, l1, l2, l3, l4⟩ := is_o ho
  unfold f133_isIn
  rw [if_pos p0, e5 p3 l3 (by omega) (by omega), mjBp_some, Int.toNat_natCast, (hK.1 t ht).1, show (2147483647 : Int32) = i3 2147483647 from rfl]
  by_cases q : sIn S W t = true
  · have := tm_bd hk (in_lt q).1
    rw [if_pos q, if_neg (by rw [c_eq (by omega)]; omega), if_pos q]; rfl
  · rw [if_neg q, if_pos (by decide), if_neg q]; rfl
theorem e134t (ho : o = 199 ∨ o = 204) (hk : okS S) (hK : vK Z o S W 6) {t : Nat} (ht : t < 6) (hi : sIn S W t = true) : f134_rankOf (o + 3) (i3 t) Z = some (i3 (sRk S W t)) := by
  obtain ⟨p0, p1, p2, p3, p4, l1, l2, l3, l4⟩ := is_o ho
  have e := e134 (Z := Z) p3 l3 (fun t ht => (hK.1 t ht).1) (fun t _ => by
    by_cases q : sIn S W t = true
    · have := tm_bd hk (in_lt q).1
      rw [if_pos q]; omega
    · rw [if_neg q]; omega) ht
  rw [rk_eq hk (fun t ht => by have := tm_bd hk ht; omega) hi] at e
  exact e
/-- what may change while it is decided who is through -/
def eqT (o : Nat) (Z Z2 : mjZt) : Prop := Z2.2 = Z.2 ∧ (∀ a, a ≠ o → Z2.1 a = Z.1 a) ∧ ∀ f, f ≠ 5 → f ≠ 7 → Z2.1 o f = Z.1 o f
theorem eqT_rf : eqT o Z Z := ⟨rfl, fun _ _ => rfl, fun _ _ _ => rfl⟩
theorem eqT_tr {Z2 Z3 : mjZt} (h : eqT o Z Z2) (g : eqT o Z2 Z3) : eqT o Z Z3 := ⟨g.1.trans h.1, fun a h1 => (g.2.1 a h1).trans (h.2.1 a h1), fun f h1 h2 => (g.2.2 f h1 h2).trans (h.2.2 f h1 h2)⟩
theorem eqT_si {k : Nat} {v : Int32} (h : k = 5 ∨ k = 7) : eqT o Z (zSi Z o k v) := ⟨rfl, fun _ h1 => si_obj _ _ _ _ h1, fun f h1 h2 => si_fld _ _ _ _ (by omega)⟩
theorem eqT_W {Z2 : mjZt} (h : eqT o Z Z2) : eqW o Z Z2 := ⟨by rw [h.1], fun a _ _ h3 => ⟨h.2.1 a (by omega), by rw [h.1]⟩⟩
theorem vK_T {Z2 : mjZt} (h : vK Z o S W 6) (e : eqT o Z Z2) : vK Z2 o S W 6 := by
  unfold vK
  rw [e.2.1 (o + 3) (by omega), e.2.1 (o + 4) (by omega), e.2.2 8 (by omega) (by omega)]
  exact h
theorem vJ_T {Z2 : mjZt} {n : Nat} (h : vJ Z o S W n) (e : eqT o Z Z2) : vJ Z2 o S W n := by
  unfold vJ
  rw [e.2.1 (o + 1) (by omega), e.2.1 (o + 2) (by omega), e.2.2 4 (by omega) (by omega), e.2.2 6 (by omega) (by omega)]
  exact h
theorem bit_step {x : Int32} {i : Nat} (hi : i < 32) {P : Nat → Bool} (h : ∀ j, j < 32 → bt x j = (decide (j < i) && P j)) : (P i = true → ∀ j, j < 32 → bt (x ||| i3 1 <<< (i3 i &&& 31)) j = (decide (j < i + 1) && P j)) ∧ (P i = false → ∀ j, j < 32 → bt x j = (decide (j < i + 1) && P j)) := by
  have e := or_bit3 hi h
  refine ⟨fun q => ?_, fun q => ?_⟩
  · rw [if_pos q] at e; exact e
  · rw [if_neg (by simp [q])] at e; exact e
theorem v14 (ho : o = 199 ∨ o = 204) (hk : okS S) : ∀ f i n (Z : mjZt), i + f = 6 → f < n → cBk Z b S → vK Z o S W 6 → (∀ j, j < 32 → bt (Z.1 o 5) j = (decide (j < i) && sThr S W j)) → ∃ Z1, f135_decideThrough_h14 n o b (i3 (laN S W i)) (i3 i) Z = f135_decideThrough_h74 mjF o b (i3 (laN S W 6)) (i3 0) Z1 ∧ eqT o Z Z1 ∧ (∀ j, j < 32 → bt (Z1.1 o 5) j = (decide (j < 6) && sThr S W j)) ∧ Z1.1 o 7 = Z.1 o 7
  | f, i, 0, _, _, hn, _, _, _ => by omega
  | 0, i, n + 1, Z, hf, _, h, hK, h5 => by
    obtain rfl : i = 6 := by omega
    exact ⟨Z, by rw [f135_decideThrough_h14, if_pos (by decide)]; rfl, eqT_rf, h5, rfl⟩
  | f + 1, i, n + 1, Z, hf, hn, h, hK, h5 => by
    obtain ⟨p0, p1, p2, p3, p4, l1, l2, l3, l4⟩ := is_o ho
    have hb := b_b h
    have o1 := ok_sc hk
    have ow := ok_tw hk
    have lb := la_bd hk (W := W) i
    have hst := bit_step (by omega : i < 32) h5
    have skip : sThr S W i = false → ∃ Z1, f135_decideThrough_h14 n o b (i3 (laN S W i)) (i3 ((i + 1 : Nat) : Int)) Z = f135_decideThrough_h74 mjF o b (i3 (laN S W 6)) (i3 0) Z1 ∧ eqT o Z Z1 ∧ (∀ j, j < 32 → bt (Z1.1 o 5) j = (decide (j < 6) && sThr S W j)) ∧ Z1.1 o 7 = Z.1 o 7 := by
      intro q
      have := v14 ho hk f (i + 1) n Z (by omega) (by omega) h hK (hst.2 q)
      rw [laN, if_neg (by simp [q])] at this
      exact this
    rw [f135_decideThrough_h14, show (6 : Int32) = i3 6 from rfl, if_neg (by rw [c_ge (by omega)]; omega), if_pos p0, e133 ho hk hK (by omega), mjBp_some, i3_s]
    by_cases q : sIn S W i = true
    · have rb := rk_bd hk (W := W) i
      have tb := tm_bd hk (in_lt q).1
      rw [if_pos q, if_neg (by decide), e134t ho hk hK (by omega) q, mjBp_some, if_pos (is_b hb), b_th h]
      by_cases q2 : sRk S W i ≤ sTh S
      · have hp : sThr S W i = true := by unfold sThr; rw [q, decide_eq_true q2]; rfl
        have e1 : eqT o Z (zSi Z o 5 (Z.1 o 5 ||| i3 1 <<< (i3 i &&& 31))) := eqT_si (by omega)
        obtain ⟨Z1, s1, s2, s3, s4⟩ := v14 ho hk f (i + 1) n _ (by omega) (by omega) (cBk_of ⟨o1.1, o1.2.1⟩ h (eqW_B (by omega) hb (eqT_W e1))) (vK_T hK e1) (fun j hj => by rw [si_same]; exact hst.1 hp j hj)
        refine ⟨Z1, ?_, eqT_tr e1 s2, s3, by rw [s4, si_fld _ _ _ _ (by omega)]⟩
        unfold sTh at q2
        rw [if_neg (by rw [c_gt (by unfold sTh at ow; omega)]; omega), let_eq, if_pos p3, l3, if_pos (in_p (by omega)), ix_nat (by omega), si_obj _ _ _ _ (by omega), (hK.1 i (by omega)).1, if_pos q, max_i3 (by omega), show (1 : Int32) = i3 1 from rfl]
        have : max (laN S W i) (sTm S i) = laN S W (i + 1) := by
          rw [laN, hp]
          by_cases q3 : laN S W i < sTm S i
          · rw [if_pos ⟨rfl, q3⟩]; omega
          · rw [if_neg (fun g => q3 g.2)]; omega
        rw [this]
        exact s1
      · have hp : sThr S W i = false := by unfold sThr; rw [decide_eq_false q2, Bool.and_false]
        unfold sTh at q2 ow
        rw [if_pos (by rw [c_gt (by omega)]; omega)]
        exact skip hp
    · have hp : sThr S W i = false := by unfold sThr; simp at q; rw [q, Bool.false_and]
      rw [if_neg q, if_pos (by decide)]
      exact skip hp
theorem v74 (ho : o = 199 ∨ o = 204) (hk : okS S) : ∀ f i n (Z : mjZt), i + f = 6 → f < n → cBk Z b S → vJ Z o S W (sAll S) → vK Z o S W 6 → (∀ j, j < 32 → bt (Z.1 o 5) j = (decide (j < 6) && sThr S W j)) → (∀ j, j < 32 → bt (Z.1 o 7) j = (decide (j < i) && sBe S W j)) → ∃ Z1, f135_decideThrough_h74 n o b (i3 (laN S W 6)) (i3 i) Z = some ((), Z1) ∧ eqT o Z Z1 ∧ Z1.1 o 5 = Z.1 o 5 ∧ (∀ j, j < 32 → bt (Z1.1 o 7) j = (decide (j < 6) && sBe S W j))
  | f, i, 0, _, _, hn, _, _, _, _, _ => by omega
  | 0, i, n + 1, Z, hf, _, h, hJ, hK, h5, h7 => by
    obtain rfl : i = 6 := by omega
    exact ⟨Z, by rw [f135_decideThrough_h74, if_pos (by decide)], eqT_rf, rfl, h7⟩
  | f + 1, i, n + 1, Z, hf, hn, h, hJ, hK, h5, h7 => by
    obtain ⟨p0, p1, p2, p3, p4, l1, l2, l3, l4⟩ := is_o ho
    have hb := b_b h
    have o1 := ok_sc hk
    have ow := ok_tw hk
    have lb := la_bd hk (W := W) 6
    have le := la_ext hk (W := W) 6 (by omega)
    have hst := bit_step (by omega : i < 32) h7
    have skip : sBe S W i = false → ∃ Z1, f135_decideThrough_h74 n o b (i3 (laN S W 6)) (i3 ((i + 1 : Nat) : Int)) Z = some ((), Z1) ∧ eqT o Z Z1 ∧ Z1.1 o 5 = Z.1 o 5 ∧ (∀ j, j < 32 → bt (Z1.1 o 7) j = (decide (j < 6) && sBe S W j)) :=
      fun q => v74 ho hk f (i + 1) n Z (by omega) (by omega) h hJ hK h5 (hst.2 q)
    have hx : (((Z.1 o 6) &&& ((Z.1 o 5) ^^^ ((-1)))) >>> (i3 i &&& 31)) &&& 1 = i3 (if (sIp S W (sAll S) i && !(sThr S W i)) = true then 1 else 0) := by
      rw [show (-1 : Int32) = i3 (-1) from rfl, show (1 : Int32) = i3 1 from rfl, bt_test (by omega), bt_and, bt_xor, (hJ.2.2 i (by omega)).2, h5 i (by omega), bt_m1 i (by omega), decide_eq_true (show i < 6 by omega), Bool.true_and]
      cases sThr S W i <;> rfl
    rw [f135_decideThrough_h74, show (6 : Int32) = i3 6 from rfl, if_neg (by rw [c_ge (by omega)]; omega), if_pos p0, e133 ho hk hK (by omega), mjBp_some, hx]
    by_cases q : sIn S W i = true
    · have hiT := (in_lt q).1
      have wb := wd_bd (W := W) hk i hiT (sAll S) (Nat.le_refl _)
      have oa := all_le hk
      rw [if_pos q, if_neg (by decide)]
      by_cases q2 : (sIp S W (sAll S) i && !(sThr S W i)) = true
      · rw [if_pos q2, if_neg (by decide)]
        unfold f135_decideThrough_j112
        rw [if_neg (by decide), if_pos p0, if_pos p2, l2, if_pos (in_p (by omega)), if_pos (is_b hb), ix_nat (by omega), hJ.2.1 i hiT, b_wi h, i3_add, i3_s]
        have q3 := q2
        simp at q3
        by_cases q4 : sWo S W i ≤ laN S W (sT S) + sWi S
        · have hp : sBe S W i = true := by unfold sBe; rw [q, q3.1, q3.2, decide_eq_true q4]; rfl
          have e1 : eqT o Z (zSi Z o 7 (Z.1 o 7 ||| i3 1 <<< (i3 i &&& 31))) := eqT_si (by omega)
          obtain ⟨Z1, s1, s2, s3, s4⟩ := v74 ho hk f (i + 1) n _ (by omega) (by omega) (cBk_of ⟨o1.1, o1.2.1⟩ h (eqW_B (by omega) hb (eqT_W e1))) (vJ_T hJ e1) (vK_T hK e1) (fun j hj => by rw [si_fld _ _ _ _ (by omega)]; exact h5 j hj) (fun j hj => by rw [si_same]; exact hst.1 hp j hj)
          refine ⟨Z1, ?_, eqT_tr e1 s2, by rw [s3, si_fld _ _ _ _ (by omega)], s4⟩
          unfold sWo sWi at q4
          unfold sWi at ow
          rw [if_neg (by rw [c_gt (by omega)]; omega), let_eq, show (1 : Int32) = i3 1 from rfl]
          exact s1
        · have hp : sBe S W i = false := by unfold sBe; rw [decide_eq_false q4]; simp
          unfold sWo sWi at q4
          unfold sWi at ow
          rw [if_pos (by rw [c_gt (by omega)]; omega)]
          exact skip hp
      · have hp : sBe S W i = false := by
          unfold sBe
          cases h1 : sIp S W (sAll S) i <;> cases h2 : sThr S W i <;> simp [h1, h2] at q2 ⊢
        rw [if_neg q2, if_pos (by decide)]
        unfold f135_decideThrough_j111 f135_decideThrough_j112
        rw [if_pos (by decide), i3_s]
        exact skip hp
    · have hp : sBe S W i = false := by unfold sBe; simp at q; rw [q, Bool.false_and]
      rw [if_neg q, if_pos (by decide)]
      unfold f135_decideThrough_j111 f135_decideThrough_j112
      rw [if_pos (by decide), i3_s]
      exact skip hp
theorem e135 (ho : o = 199 ∨ o = 204) (hk : okS S) (h : cBk Z b S) (hJ : vJ Z o S W (sAll S)) (hK : vK Z o S W 6) : ∃ Z1, f135_decideThrough o b Z = some ((), Z1) ∧ eqW o Z Z1 ∧ vRep Z1 o S W := by
  obtain ⟨p0, p1, p2, p3, p4, l1, l2, l3, l4⟩ := is_o ho
  have hb := b_b h
  have o1 := ok_sc hk
  have e1 : eqT o Z (zSi (zSi Z o 5 0) o 7 0) := eqT_tr (eqT_si (by omega)) (eqT_si (by omega))
  have h1 := cBk_of ⟨o1.1, o1.2.1⟩ h (eqW_B (by omega) hb (eqT_W e1))
  obtain ⟨Z1, r1, r2, r3, r4⟩ := v14 ho hk 6 0 mjF (zSi (zSi Z o 5 0) o 7 0) (by omega) (by decide) h1 (vK_T hK e1) (fun j hj => by rw [si_fld _ _ _ _ (by omega), si_same, show (0 : Int32) = i3 0 from rfl, bt_0]; rfl)
  have e2 := eqT_tr e1 r2
  obtain ⟨Z2, s1, s2, s3, s4⟩ := v74 ho hk 6 0 mjF Z1 (by omega) (by decide) (cBk_of ⟨o1.1, o1.2.1⟩ h (eqW_B (by omega) hb (eqT_W e2))) (vJ_T hJ e2) (vK_T hK e2) r3 (fun j hj => by rw [r4, si_same, show (0 : Int32) = i3 0 from rfl, bt_0]; rfl)
  have e3 := eqT_tr e2 s2
  refine ⟨Z2, ?_, eqT_W e3, ?_⟩
  · unfold f135_decideThrough
    rw [if_pos p0, let_eq, let_eq]
    rw [show i3 ((0 : Nat) : Int) = (0 : Int32) from rfl] at r1 s1
    rw [show i3 (laN S W 0) = (0 : Int32) from rfl] at r1
    rw [r1]
    exact s1
  · have J := vJ_T hJ e3
    have K := vK_T hK e3
    refine ⟨J.1, J.2.1, fun _ => K.1, fun j hj => ⟨(J.2.2 j hj).1, ?_, (J.2.2 j hj).2, ?_, ?_⟩⟩
    · rw [s3, r3 j hj]
      by_cases q : j < 6
      · rw [decide_eq_true q, Bool.true_and]
      · have : sThr S W j = false := by
          cases q2 : sThr S W j
          · rfl
          · have := (in_lt (thr_in q2)).1; omega
        rw [this, Bool.and_false]
    · rw [s4 j hj]
      by_cases q : j < 6
      · rw [decide_eq_true q, Bool.true_and]
      · have : sIn S W j = false := by
          cases q2 : sIn S W j
          · rfl
          · have := (in_lt q2).1; omega
        unfold sBe
        rw [this]; simp
    · rw [K.2 j hj]
      by_cases q : j < 6
      · rw [decide_eq_true q, Bool.true_and]
      · have : sWh S j = false := decide_eq_false (by omega)
        rw [this, Bool.and_false]
theorem e136 (ho : o = 199 ∨ o = 204) (hk : okS S) (hoc : okC S) {w : Int64} (hw : ∀ j, j < sAll S → b6 w j = W j) (h : cBk Z b S) (hd : cDr Z b S) (htr : cTr Z b S) : ∃ Z1, f136_decide o b w Z = some ((), Z1) ∧ eqW o Z Z1 ∧ vRep Z1 o S W := by
  obtain ⟨p0, p1, p2, p3, p4, l1, l2, l3, l4⟩ := is_o ho
  have hb := b_b h
  have o1 := ok_sc hk
  have B1 := fun {Z2} (e : eqW o Z Z2) => cBk_of ⟨o1.1, o1.2.1⟩ h (eqW_B (b := b) (by omega) hb e)
  have B2 := fun {Z2} (e : eqW o Z Z2) => cDr_of ⟨o1.1, all_le hk⟩ hd (eqW_B (b := b) (by omega) hb e)
  have B3 := fun {Z2} (e : eqW o Z Z2) => cTr_of htr (eqW_B (b := b) (by omega) hb e)
  have e1 : eqW o Z (zSi (zSi Z o 4 0) o 6 0) := eqW_tr (eqW_si (by omega)) (eqW_si (by omega))
  obtain ⟨Z1, r1, r2, r3, r4⟩ := v13 (b := b) ho hk w 6 0 mjF _ (by omega) (by decide) (B1 e1) (B2 e1) (fun t ht => by omega)
  have e2 := eqW_tr e1 r2
  obtain ⟨Z2, s1, s2, s3⟩ := v45 ho hk hoc hw (sAll S) 0 mjF Z1 (by omega) (by have := all_le hk; unfold mjF; omega) (B1 e2) (B2 e2) (B3 e2) ⟨fun a ha => by omega, fun t ht => by rw [r3 t (by omega)]; unfold tZ; rw [if_pos ht, sWd], fun j hj => by rw [r4, si_fld _ _ _ _ (by omega), si_same, si_same, show (0 : Int32) = i3 0 from rfl, bt_0]; exact ⟨rfl, rfl⟩⟩
  have e3 := eqW_tr e2 s2
  have e4 : eqW o Z2 (zSi Z2 o 8 0) := eqW_si (by omega)
  have e5 := eqW_tr e3 e4
  obtain ⟨Z3, t1, t2, t3, t4⟩ := v124 ho hk 6 0 mjF (zSi Z2 o 8 0) (by omega) (by decide) (B1 e5) (B2 e5) (by
    obtain ⟨j1, j2, j3⟩ := s3
    refine ⟨fun x hx j hj => ?_, fun t ht => ?_, fun j hj => ?_⟩
    · rw [si_obj _ _ _ _ (by omega)]; exact j1 x hx j hj
    · rw [si_obj _ _ _ _ (by omega)]; exact j2 t ht
    · rw [si_fld _ _ _ _ (by omega), si_fld _ _ _ _ (by omega)]; exact j3 j hj) ⟨fun t ht => by omega, fun j hj => by rw [si_same, show (0 : Int32) = i3 0 from rfl, bt_0]; rfl⟩
  have e6 := eqW_tr e5 t2
  obtain ⟨Z4, u1, u2, u3⟩ := e135 ho hk (B1 e6) t3 t4
  refine ⟨Z4, ?_, eqW_tr e6 u2, u3⟩
  unfold f136_decide
  rw [show i3 ((0 : Nat) : Int) = (0 : Int32) from rfl] at r1 s1 t1
  rw [if_pos p0, let_eq, let_eq, r1, show i3 0 = (0 : Int32) from rfl, s1]
  unfold f136_decide_j116
  rw [if_pos p0, let_eq, t1, u1, mjBd_some]
end VF
