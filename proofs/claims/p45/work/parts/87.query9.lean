/-! QUERIES: who, again, impeders -/
section Q87
variable {b o : Nat} {S : mjS} {W : Nat → Bool} {Z Zm : mjZt}
theorem bt_put {x : Int32} {i : Nat} (hi : i < 32) {P : Nat → Bool} {p : Bool} (hp : P i = p) (h : ∀ j, j < 32 → bt x j = (decide (j < i) && P j)) : ∀ j, j < 32 → bt (x ||| (i3 (if p = true then 1 else 0) <<< (i3 i &&& 31))) j = (decide (j < i + 1) && P j) := by
  intro j hj
  have e := or_bit3 hi h j hj
  rw [← e]
  cases p with
  | true => rw [if_pos rfl, hp, if_pos rfl]
  | false =>
    rw [if_neg (by decide), hp, if_neg (by decide), bt_or, bt_shl hi _ hj, bt_0, Bool.and_false, Bool.or_false]
theorem m196b (p : Bool) : f196_truth (i3 (if p = true then 1 else 0)) Z = some (i3 (if p = true then 1 else 0)) := by
  cases p
  · rw [if_neg (by decide)]; exact m196_0
  · rw [if_pos rfl]; exact m196_1
/-- teams of a kind: 0 struck, 1 through, 2 impeded, 3 besides, 4 whole -/
def whP (S : mjS) (W : Nat → Bool) (k : Int) (t : Nat) : Bool := if k = 0 then sHi S W (sAll S) t else if k = 1 then sThr S W t else if k = 2 then sIp S W (sAll S) t else if k = 3 then sBe S W t else sWh S t
theorem m314h (hk : okS S) (hm : mRep Z S) (hV : mVd Z S W (sAll S)) {k : Int} (hkk : 0 ≤ k ∧ k ≤ 4 ∧ k ≠ 3) : ∀ f i n (x : Int32), i + f = sT S → f < n → (∀ j, j < 32 → bt x j = (decide (j < i) && whP S W k j)) → ∃ y, f314_who_h32 n (i3 k) x (i3 i) Z = some (y, Z) ∧ ∀ j, j < 32 → bt y j = (decide (j < sT S) && whP S W k j)
  | f, i, 0, _, _, hn, _ => by omega
  | 0, i, n + 1, x, hf, _, hx => by
    obtain rfl : i = sT S := by omega
    have o1 := ok_sc hk
    exact ⟨x, by rw [f314_who_h32, m_T hm, if_pos (by rw [c_ge (by omega)]; omega)], hx⟩
  | f + 1, i, n + 1, x, hf, hn, hx => by
    have o1 := ok_sc hk
    have hi : i < sT S := by omega
    have st : ∀ p, whP S W k i = p → ∃ y, f314_who_h32 n (i3 k) (x ||| (i3 (if p = true then 1 else 0) <<< (i3 i &&& 31))) (i3 ((i + 1 : Nat) : Int)) Z = some (y, Z) ∧ ∀ j, j < 32 → bt y j = (decide (j < sT S) && whP S W k j) := fun p hp =>
      m314h hk hm hV hkk f (i + 1) n _ (by omega) (by omega) (bt_put (by omega) hp hx)
    rw [f314_who_h32, m_T hm, if_neg (by rw [c_ge (by omega)]; omega), i3_s]
    obtain ⟨v1, v2, v3⟩ := hV.2 i hi
    rcases (by omega : k = 0 ∨ k = 1 ∨ k = 2 ∨ k = 4) with rfl | rfl | rfl | rfl
    · rw [if_neg (by decide), if_pos (in_p (by omega)), ix_nat (by omega), v1, m196b, mjBp_some]
      exact st _ rfl
    · rw [if_pos (by decide), if_neg (by decide), m312 hk hm hV hi, mjBp_some, m196b, mjBp_some]
      exact st _ rfl
    · rw [if_pos (by decide), if_pos (by decide), if_neg (by decide), if_pos (in_p (by omega)), ix_nat (by omega), v2, m196b, mjBp_some]
      exact st _ rfl
    · have e : (if sTd S i = sLg S then (1 : Int) else 0) = if sWh S i = true then 1 else 0 := by
        by_cases q : sTd S i = sLg S
        · rw [if_pos q, show sWh S i = true from decide_eq_true ⟨hi, q⟩]; rfl
        · rw [if_neg q, show sWh S i = false from decide_eq_false (fun g => q g.2)]; rfl
      rw [if_pos (by decide), if_pos (by decide), if_pos (by decide), m247 hm hk hi, mjBp_some, e, m196b, mjBp_some]
      exact st _ rfl
theorem m313a (hk : okS S) (hm : mRep Z S) (hV : mVd Z S W (sAll S)) : ∀ f i n, i + f = sT S → f < n → f313_besides_h4 n (i3 (laN S W i)) (i3 i) Z = f313_besides_h45 mjF (i3 (laN S W (sT S))) 0 0 Z
  | f, i, 0, _, hn => by omega
  | 0, i, n + 1, hf, _ => by
    obtain rfl : i = sT S := by omega
    have o1 := ok_sc hk
    rw [f313_besides_h4, m_T hm, if_pos (by rw [c_ge (by omega)]; omega)]
  | f + 1, i, n + 1, hf, hn => by
    have o1 := ok_sc hk
    have hi : i < sT S := by omega
    have ih := m313a hk hm hV f (i + 1) n (by omega) (by omega)
    have lb := la_bd hk (W := W) i
    have tb := tm_bd hk hi
    rw [laN] at ih
    rw [f313_besides_h4, m_T hm, if_neg (by rw [c_ge (by omega)]; omega), m312 hk hm hV hi, mjBp_some, i3_s]
    by_cases q : sThr S W i = true
    · rw [if_pos q, if_neg (by decide), m246 hm hk hi, mjBp_some]
      by_cases q2 : laN S W i < sTm S i
      · rw [if_pos ⟨q, q2⟩] at ih
        rw [if_neg (by rw [c_le (by omega)]; omega)]
        exact ih
      · rw [if_neg (fun g => q2 g.2)] at ih
        rw [if_pos (by rw [c_le (by omega)]; omega)]
        exact ih
    · rw [if_neg (fun g => q g.1)] at ih
      rw [if_neg q, if_pos (by decide)]
      exact ih
theorem m313b (hk : okS S) (hm : mRep Z S) (hV : mVd Z S W (sAll S)) : ∀ f i n (x : Int32), i + f = sT S → f < n → (∀ j, j < 32 → bt x j = (decide (j < i) && sBe S W j)) → ∃ y, f313_besides_h45 n (i3 (laN S W (sT S))) x (i3 i) Z = some y ∧ ∀ j, j < 32 → bt y j = (decide (j < sT S) && sBe S W j)
  | f, i, 0, _, _, hn, _ => by omega
  | 0, i, n + 1, x, hf, _, hx => by
    obtain rfl : i = sT S := by omega
    have o1 := ok_sc hk
    exact ⟨x, by rw [f313_besides_h45, m_T hm, if_pos (by rw [c_ge (by omega)]; omega)], hx⟩
  | f + 1, i, n + 1, x, hf, hn, hx => by
    have o1 := ok_sc hk
    have ow := ok_tw hk
    have oa := all_le hk
    have hi : i < sT S := by omega
    have lb := la_bd hk (W := W) (sT S)
    have wb := wd_bd (W := W) hk i hi (sAll S) (Nat.le_refl _)
    obtain ⟨v1, v2, v3⟩ := hV.2 i hi
    have st : ∀ p, sBe S W i = p → ∃ y, f313_besides_h45 n (i3 (laN S W (sT S))) (x ||| (i3 (if p = true then 1 else 0) <<< (i3 i &&& 31))) (i3 ((i + 1 : Nat) : Int)) Z = some y ∧ ∀ j, j < 32 → bt y j = (decide (j < sT S) && sBe S W j) := fun p hp =>
      m313b hk hm hV f (i + 1) n _ (by omega) (by omega) (bt_put (by omega) hp hx)
    rw [f313_besides_h45, m_T hm, if_neg (by rw [c_ge (by omega)]; omega), m304 hk hm hV hi, mjBp_some, show (0 : Int32) = i3 0 from rfl, show (1 : Int32) = i3 1 from rfl, show i3 (i : Int) + i3 1 = i3 ((i + 1 : Nat) : Int) from i3_s i]
    unfold sWo at *
    by_cases q : sIn S W i = true
    · rw [if_pos q, if_neg (by decide), if_pos (in_p (by omega)), ix_nat (by omega), v2]
      by_cases q2 : sIp S W (sAll S) i = true
      · rw [if_pos q2, if_neg (by decide), m312 hk hm hV hi, mjBp_some]
        by_cases q3 : sThr S W i = true
        · rw [if_pos q3, if_pos (by decide), m196_0, mjBp_some]
          exact st false (by unfold sBe; rw [q3]; simp)
        · rw [if_neg q3, if_neg (by decide), v3, m_wi hm, i3_add]
          simp at q3
          unfold sWi at ow
          by_cases q4 : sWd S W i (sAll S) ≤ laN S W (sT S) + S 10 4
          · rw [if_neg (by rw [c_gt (by omega)]; omega), m196_1, mjBp_some]
            exact st true (by unfold sBe sWo sWi; rw [q, q2, q3, decide_eq_true q4]; rfl)
          · rw [if_pos (by rw [c_gt (by omega)]; omega), m196_0, mjBp_some]
            exact st false (by unfold sBe sWo sWi; rw [decide_eq_false q4]; simp)
      · rw [if_neg q2, if_pos (by decide), m196_0, mjBp_some]
        simp at q2
        exact st false (by unfold sBe; rw [q2]; simp)
    · rw [if_neg q, if_pos (by decide), m196_0, mjBp_some]
      simp at q
      exact st false (by unfold sBe; rw [q]; simp)
theorem m313 (hk : okS S) (hm : mRep Z S) (hV : mVd Z S W (sAll S)) : ∃ y, f313_besides Z = some y ∧ ∀ j, j < 32 → bt y j = (decide (j < sT S) && sBe S W j) := by
  have o1 := ok_sc hk
  obtain ⟨y, r1, r2⟩ := m313b hk hm hV (sT S) 0 mjF 0 (by omega) (by unfold mjF; omega) (fun j hj => by rw [show (0 : Int32) = i3 0 from rfl, bt_0]; simp)
  refine ⟨y, ?_, r2⟩
  have e := m313a hk hm hV (sT S) 0 mjF (by omega) (by unfold mjF; omega)
  unfold f313_besides
  rw [show i3 (laN S W 0) = (0 : Int32) from rfl, show i3 ((0 : Nat) : Int) = (0 : Int32) from rfl] at e
  rw [e]
  exact r1
theorem be_in {t : Nat} (h : sBe S W t = true) : sIn S W t = true := by
  unfold sBe at h; simp at h; exact h.1
theorem whP_big (hk : okS S) {k : Int} {t : Nat} (ht : sT S ≤ t) : whP S W k t = false := by
  have n0 : sIn S W t = false := by unfold sIn; rw [decide_eq_false (by omega)]; rfl
  unfold whP
  split
  · exact hi_big hk ht _ (Nat.le_refl _)
  · split
    · unfold sThr; rw [n0]; rfl
    · split
      · exact ip_big hk ht _ (Nat.le_refl _)
      · split
        · unfold sBe; rw [n0]; rfl
        · exact decide_eq_false (by omega)
theorem q_who (ho : okS S) (hoc : okC S) (hm : mRep Zm S) (hW : mWv Zm S (sW S)) (hv : vRep Z 199 S (sW S)) (x : Int32) : ∃ v, f182_who x Z = some v ∧ ∃ Z2, f314_who x Zm = some (v, Z2) ∧ eqQ Zm Z2 := by
  have o1 := ok_sc ho
  obtain ⟨k, rfl, hk1, hk2⟩ := i3_ex x
  unfold f182_who f314_who
  rw [i3_int (by omega), i36 (by omega), show (0 : Int64) = i6 0 from rfl, show (4 : Int64) = i6 4 from rfl]
  by_cases q : k < 0 ∨ 4 < k
  · refine ⟨i3 (-1), ?_, Zm, ?_, eqQ_rf⟩
    · rw [if_pos q]; rfl
    · rw [m195f (by omega), mjBp_some, if_neg (by decide)]; rfl
  · obtain ⟨Z1, r1, r2, r3⟩ := m302 ho hoc hm hW
    have fin : ∀ y : Int32, (∀ j, j < 32 → bt y j = (decide (j < sT S) && whP S (sW S) k j)) → ∀ z : Int32, (∀ j, j < 32 → bt z j = whP S (sW S) k j) → y = z := by
      intro y hy z hz
      refine bt_ext (fun j hj => ?_)
      rw [hy j hj, hz j hj]
      by_cases q2 : j < sT S
      · rw [decide_eq_true q2, Bool.true_and]
      · rw [whP_big ho (by omega), Bool.and_false]
    by_cases q3 : k = 3
    · subst q3
      obtain ⟨y, s1, s2⟩ := m313 ho (mRep_q hm r2) r3
      refine ⟨y, ?_, Z1, ?_, r2⟩
      · rw [if_neg q, if_neg (by decide), if_neg (by decide), if_neg (by decide), if_pos (by decide)]
        exact congrArg some (fin y s2 _ (fun j hj => (hv.2.2.2 j hj).2.2.2.1)).symm
      · rw [m195t (by omega), mjBp_some, if_pos (by decide), r1, mjBd_some, if_neg (by decide), s1, mjBp_some]
    · obtain ⟨y, s1, s2⟩ := m314h ho (mRep_q hm r2) r3 (k := k) (by omega) (sT S) 0 mjF 0 (by omega) (by unfold mjF; omega) (fun j hj => by rw [show (0 : Int32) = i3 0 from rfl, bt_0]; simp)
      refine ⟨y, ?_, Z1, ?_, r2⟩
      · rcases (by omega : k = 0 ∨ k = 1 ∨ k = 2 ∨ k = 4) with rfl | rfl | rfl | rfl
        · rw [if_neg q, if_pos (by decide)]
          exact congrArg some (fin y s2 _ (fun j hj => (hv.2.2.2 j hj).1)).symm
        · rw [if_neg q, if_neg (by decide), if_pos (by decide)]
          exact congrArg some (fin y s2 _ (fun j hj => (hv.2.2.2 j hj).2.1)).symm
        · rw [if_neg q, if_neg (by decide), if_neg (by decide), if_pos (by decide)]
          exact congrArg some (fin y s2 _ (fun j hj => (hv.2.2.2 j hj).2.2.1)).symm
        · rw [if_neg q, if_neg (by decide), if_neg (by decide), if_neg (by decide), if_neg (by decide), if_pos (by decide)]
          exact congrArg some (fin y s2 _ (fun j hj => (hv.2.2.2 j hj).2.2.2.2)).symm
      · rw [m195t (by omega), mjBp_some, if_pos (by decide), r1, mjBd_some, if_pos (by rw [show (3 : Int32) = i3 3 from rfl, c_ne (by omega)]; exact q3)]
        exact s1
/-! impeders -/
def imN (S : mjS) (W : Nat → Bool) (t : Nat) : Nat → Int32
  | 0 => 0
  | n + 1 => if stk S W n = true ∧ sKd S n = 3 ∧ sOt S n = t then imN S W t n ||| (1 <<< (i3 (sTmA S n) &&& 31)) else imN S W t n
theorem stk_bt (hk : okS S) (hv : vRep Z o S W) {a : Nat} (ha : a < sAll S) : (mjCmp .eq (Z.1 (o + 1) a) 0 = true) = (stk S W a = false) := by
  have o1 := ok_sc hk
  have e := bt_none (R := sR S) (P := fun r => sSt S W a (sTe S a) (sSz S a) r) (by omega) (hv.1 a ha)
  have e2 : (mjCmp .eq (Z.1 (o + 1) a) 0 = true) = (Z.1 (o + 1) a = i3 0) := by
    obtain ⟨z, hz, z1, z2⟩ := i3_ex (Z.1 (o + 1) a)
    rw [hz, show (0 : Int32) = i3 0 from rfl, c_eq (by omega)]
    apply propext
    constructor
    · intro g; rw [g]
    · intro g
      have := congrArg Int32.toInt g
      rw [i3_int (by omega), i3_int (by omega)] at this
      exact this
  rw [e2, e]
  unfold stk fRu
  simp
theorem e146h (hk : okS S) (h : cBk Z b S) (hd : cDr Z b S) (hv : vRep Z o S W) (ho : o = 199 ∨ o = 204) {t : Nat} (ht : t < 6) : ∀ f i n, i + f = sA S → f < n → f146_impedersOf_h5 n o b (i3 t) (imN S W t i) (i3 i) Z = some (imN S W t (sA S))
  | f, i, 0, _, hn => by omega
  | 0, i, n + 1, hf, _ => by
    obtain rfl : i = sA S := by omega
    have o1 := ok_sc hk
    rw [f146_impedersOf_h5, if_pos (is_b (b_b h)), b_A h, if_pos (by rw [c_ge (by omega)]; omega)]
  | f + 1, i, n + 1, hf, hn => by
    have o1 := ok_sc hk
    have hb := b_b h
    have hi : i < sAll S := by unfold sAll; omega
    have ih := e146h hk h hd hv ho ht f (i + 1) n (by omega) (by omega)
    obtain ⟨a0, a1, a2, a3, a4⟩ := d_ac hd hi
    have kb := kd_bd hk (a := i)
    have ob : -1 ≤ sOt S i ∧ sOt S i ≤ 6 := by rcases ot_cases hk (a := i) with ⟨q, _⟩ | ⟨c, q, q2, _⟩ <;> omega
    rw [imN] at ih
    rw [f146_impedersOf_h5, if_pos (is_b hb), b_A h, if_neg (by rw [c_ge (by omega)]; omega), e6 hb (by omega), mjBp_some, if_pos (is_ac hb i (by omega)), a0, a1, a2, show (3 : Int32) = i3 3 from rfl, i3_s]
    by_cases q1 : sKd S i = 3
    · rw [if_neg (by rw [c_ne (by omega)]; omega)]
      by_cases q2 : sOt S i = t
      · rw [if_neg (by rw [c_ne (by omega)]; omega), if_pos (is_o ho).1, e142 hk hv ho hi, mjBp_some]
        by_cases q3 : stk S W i = true
        · rw [if_pos ⟨q3, q1, q2⟩] at ih
          rw [if_neg (by rw [stk_bt hk hv hi, q3]; decide)]
          exact ih
        · rw [if_neg (fun g => q3 g.1)] at ih
          simp at q3
          rw [if_pos (by rw [stk_bt hk hv hi]; exact q3)]
          exact ih
      · rw [if_neg (fun g => q2 g.2.2)] at ih
        rw [if_pos (by rw [c_ne (by omega)]; omega)]
        exact ih
    · rw [if_neg (fun g => q1 g.2.1)] at ih
      rw [if_pos (by rw [c_ne (by omega)]; omega)]
      exact ih
theorem m310h (hk : okS S) (hm : mRep Z S) (hV : mVd Z S W (sAll S)) {t : Nat} (ht : t < 6) : ∀ f i n, i + f = sA S → f < n → f310_impeders_h18 n (i3 t) (imN S W t i) (i3 i) Z = some (imN S W t (sA S), Z)
  | f, i, 0, _, hn => by omega
  | 0, i, n + 1, hf, _ => by
    obtain rfl : i = sA S := by omega
    have o1 := ok_sc hk
    rw [f310_impeders_h18, m_A hm, if_pos (by rw [c_ge (by omega)]; omega)]
  | f + 1, i, n + 1, hf, hn => by
    have o1 := ok_sc hk
    have hi : i < sAll S := by unfold sAll; omega
    have ih := m310h hk hm hV ht f (i + 1) n (by omega) (by omega)
    have kb := kd_bd hk (a := i)
    have ob : -1 ≤ sOt S i ∧ sOt S i ≤ 6 := by rcases ot_cases hk (a := i) with ⟨q, _⟩ | ⟨c, q, q2, _⟩ <;> omega
    rw [imN] at ih
    rw [f310_impeders_h18, m_A hm, if_neg (by rw [c_ge (by omega)]; omega), if_pos (in_p (by omega)), ix_nat (by omega), hV.1 i hi, show (3 : Int32) = i3 3 from rfl, i3_s]
    by_cases q3 : stk S W i = true
    · rw [if_pos q3, if_neg (by decide), m273 hm hk hi, mjBp_some]
      by_cases q1 : sKd S i = 3
      · rw [if_neg (by rw [c_ne (by omega)]; omega), m275 hm hk hi, mjBp_some]
        by_cases q2 : sOt S i = t
        · rw [if_pos ⟨q3, q1, q2⟩] at ih
          rw [if_neg (by rw [c_ne (by omega)]; omega), m274 hm hk hi, mjBp_some]
          exact ih
        · rw [if_neg (fun g => q2 g.2.2)] at ih
          rw [if_pos (by rw [c_ne (by omega)]; omega)]
          exact ih
      · rw [if_neg (fun g => q1 g.2.1)] at ih
        rw [if_pos (by rw [c_ne (by omega)]; omega)]
        exact ih
    · rw [if_neg (fun g => q3 g.1)] at ih
      rw [if_neg q3, if_pos (by decide)]
      exact ih
theorem q_impeders (hb : Z.2.2.1 = b) (h : cBk Z b S) (hd : cDr Z b S) (ho : okS S) (hoc : okC S) (hm : mRep Zm S) (hW : mWv Zm S (sW S)) (hv : vRep Z 199 S (sW S)) (x : Int32) : ∃ v, f186_impeders x Z = some v ∧ ∃ Z2, f310_impeders x Zm = some (v, Z2) ∧ eqQ Zm Z2 := by
  have hb2 := b_b h
  have o1 := ok_sc ho
  unfold f186_impeders f310_impeders
  rw [hb]
  rcases tm_cases S x with ⟨t, rfl, ht⟩ | ⟨t, rfl, ht⟩
  · obtain ⟨Z1, r1, r2, r3⟩ := m302 ho hoc hm hW
    have e1 := e146h ho h hd hv (by omega) (show t < 6 by omega) (sA S) 0 mjF (by omega) (by unfold mjF; omega)
    have e2 := m310h ho (mRep_q hm r2) r3 (show t < 6 by omega) (sA S) 0 mjF (by omega) (by unfold mjF; omega)
    refine ⟨imN S (sW S) t (sA S), ?_, Z1, ?_, r2⟩
    · rw [if_pos (is_b hb2), e7t h ho ht, mjBp_some, if_neg (by decide)]
      unfold f146_impedersOf
      exact (congrArg (fun q => mjBp q fun v107 => some v107) e1).trans (by rw [mjBp_some])
    · rw [m240t hm ho ht, mjBp_some, if_pos (by decide), r1, mjBd_some]
      exact e2
  · refine ⟨i3 (-1), ?_, Zm, ?_, eqQ_rf⟩
    · rw [if_pos (is_b hb2), e7f h ho ht, mjBp_some, if_pos (by decide)]; rfl
    · rw [m240f hm ho ht, mjBp_some, if_neg (by decide)]; rfl
end Q87
