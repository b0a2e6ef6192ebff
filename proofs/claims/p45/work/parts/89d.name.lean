/-! QUERIES: about, name -/
def nmF : Nat → Nat → Prop
  | 0, w => w = 0
  | f + 1, w => w = 0 ∨ (97 ≤ w % 256 ∧ w % 256 ≤ 122 ∧ nmF f (w / 256))
def nmL : Nat → Nat → Nat
  | 0, _ => 0
  | f + 1, w => if w = 0 then 0 else nmL f (w / 256) + 1
def cvN : Nat → Nat → Nat
  | 0, _ => 0
  | f + 1, w => if w = 0 then 0 else cvN f (w / 256) + (w % 256 - 96) * 32 ^ nmL f (w / 256)
theorem nm_0 : ∀ f, nmF f 0
  | 0 => rfl
  | _ + 1 => Or.inl rfl
theorem nm_bd : ∀ f w, nmF (f + 1) w → w < 123 * 256 ^ f
  | 0, w, h => by
    rcases h with h | ⟨_, h2, h3⟩
    · subst h; decide
    · have h4 : w / 256 = 0 := h3
      simp only [Nat.pow_zero]
      omega
  | f + 1, w, h => by
    rcases h with h | ⟨_, h2, h3⟩
    · subst h; exact Nat.mul_pos (by decide) (Nat.pow_pos (by decide))
    · have ih := nm_bd f _ h3
      rw [Nat.pow_succ]
      generalize 256 ^ f = P at *
      omega
theorem nmN_c : ∀ f (w : Nat), nmN f (w : Int) = nmL f w
  | 0, _ => rfl
  | f + 1, w => by
    rw [nmN, nmL]
    by_cases q : w = 0
    · rw [if_pos (by omega), if_pos q]
    · rw [if_neg (by omega), if_neg q, show (w : Int) / 256 = ((w / 256 : Nat) : Int) from rfl, nmN_c f]
theorem sCv_c : ∀ f (w : Nat), nmF f w → sCvF f (w : Int) = (cvN f w : Int)
  | 0, _, _ => rfl
  | f + 1, w, h => by
    rw [sCvF, cvN]
    by_cases q : w = 0
    · rw [if_pos (by omega), if_pos q]; rfl
    · rcases h with h | ⟨h1, h2, h3⟩
      · exact absurd h q
      · rw [if_neg (by omega), if_neg q, show (w : Int) / 256 = ((w / 256 : Nat) : Int) from rfl, nmN_c f, sCv_c f _ h3, show (w : Int) % 256 = ((w % 256 : Nat) : Int) from rfl]
        rw [Int.natCast_add, Int.natCast_mul, Int.natCast_pow, show ((w % 256 : Nat) : Int) - 96 = ((w % 256 - 96 : Nat) : Int) by omega]
        rfl
theorem nmL_le : ∀ f w, nmL f w ≤ f
  | 0, _ => Nat.le_refl _
  | f + 1, w => by
    have := nmL_le f (w / 256)
    rw [nmL]
    split <;> omega
theorem cv_lt : ∀ f w, nmF f w → cvN f w < 32 ^ nmL f w
  | 0, w, _ => by rw [cvN, nmL]; decide
  | f + 1, w, h => by
    rw [cvN, nmL]
    by_cases q : w = 0
    · rw [if_pos q, if_pos q]; decide
    · rcases h with h | ⟨h1, h2, h3⟩
      · exact absurd h q
      · have ih := cv_lt f _ h3
        rw [if_neg q, if_neg q, Nat.pow_succ]
        generalize 32 ^ nmL f (w / 256) = P at *
        have h4 := Nat.mul_le_mul_right P (show w % 256 - 96 ≤ 26 by omega)
        omega
theorem cv_dig : ∀ f w, nmF f w → ∀ i, cvN f w / 32 ^ i % 32 = if i < nmL f w then w / 256 ^ (nmL f w - 1 - i) % 256 - 96 else 0
  | 0, w, _, i => by rw [cvN, nmL, if_neg (by omega), Nat.zero_div]
  | f + 1, w, h, i => by
    rw [cvN, nmL]
    by_cases q : w = 0
    · rw [if_pos q, if_pos q, if_neg (by omega), Nat.zero_div]
    · rcases h with h | ⟨h1, h2, h3⟩
      · exact absurd h q
      · have ih := cv_dig f _ h3 i
        have lt := cv_lt f _ h3
        rw [if_neg q, if_neg q]
        generalize hA : cvN f (w / 256) = A at *
        generalize hn : nmL f (w / 256) = n at *
        generalize hd : w % 256 - 96 = d at *
        have d26 : d ≤ 26 := by omega
        rcases (by omega : i < n ∨ i = n ∨ n < i) with g | g | g
        · rw [if_pos (by omega)]
          rw [if_pos g] at ih
          have e1 : 32 ^ n = 32 ^ i * (32 * 32 ^ (n - i - 1)) := by
            rw [← Nat.pow_succ', ← Nat.pow_add]
            congr 1
            omega
          have e2 : A + d * 32 ^ n = A + 32 ^ i * (32 * (d * 32 ^ (n - i - 1))) := by
            rw [e1]
            congr 1
            rw [Nat.mul_left_comm, Nat.mul_left_comm d 32]
          rw [e2, Nat.add_mul_div_left _ _ (Nat.pow_pos (by decide)), Nat.add_mul_mod_self_left, ih, Nat.div_div_eq_div_mul, ← Nat.pow_succ']
          congr 4
          omega
        · subst g
          rw [if_pos (by omega), Nat.add_mul_div_right _ _ (Nat.pow_pos (by decide)), Nat.div_eq_of_lt lt, show i + 1 - 1 - i = 0 by omega, Nat.pow_zero, Nat.div_one, hd]
          omega
        · rw [if_neg (by omega)]
          have h5 : A + d * 32 ^ n < 32 ^ i := by
            have h6 : 32 ^ (n + 1) ≤ 32 ^ i := Nat.pow_le_pow_right (by decide) (by omega)
            have h4 := Nat.mul_le_mul_right (32 ^ n) d26
            rw [Nat.pow_succ] at h6
            generalize 32 ^ n = P at *
            generalize 32 ^ i = Q at *
            omega
          rw [Nat.div_eq_of_lt h5]
/-! shifts of longs that are no negative -/
theorem shr_mod {W n p : Nat} (hW : W < 2 ^ 63) (hn : n < 64) (hp : p ≤ 32) : (i6 W >>> ((i3 n).toInt64 &&& 63)) &&& i6 ((2 ^ p - 1 : Nat) : Int) = i6 ((W / 2 ^ n % 2 ^ p : Nat) : Int) := by
  refine b6_ext (fun j hj => ?_)
  rw [b6_and, b6_shr hn _ hj, b6_nat hj, b6_nat hj, Nat.testBit_two_pow_sub_one, Nat.testBit_mod_two_pow, Nat.testBit_div_two_pow]
  by_cases q : n + j < 64
  · rw [if_pos q, b6_nat q, Nat.add_comm, Bool.and_comm]
  · rw [if_neg q, b6_nat (by omega), tb_big hW (by omega), tb_big hW (show 63 ≤ j + n by omega), Bool.false_and, Bool.and_false]
theorem ush_s : ∀ n : Nat, n < 64 → (((i3 n).toInt64.toUInt64 &&& Int64.toUInt64 63).toBitVec % 64).toNat = n := by decide +kernel
theorem ush_n {W n : Nat} (hW : W < 2 ^ 63) (hn : n < 64) : ((i6 W).toUInt64 >>> ((i3 n).toInt64.toUInt64 &&& Int64.toUInt64 63)).toInt64 = i6 ((W / 2 ^ n : Nat) : Int) := by
  have e : (((i6 W).toUInt64 >>> ((i3 n).toInt64.toUInt64 &&& Int64.toUInt64 63)).toInt64).toBitVec.toNat = (i6 W).toBitVec.toNat / 2 ^ n := by
    show ((i6 W).toBitVec >>> (((i3 n).toInt64.toUInt64 &&& Int64.toUInt64 63).toBitVec % 64).toNat).toNat = _
    rw [ush_s n hn, BitVec.toNat_ushiftRight, Nat.shiftRight_eq_div_pow]
  have e2 : (i6 (W : Int)).toBitVec.toNat = W := by
    show (BitVec.ofInt 64 (W : Int)).toNat = W
    rw [BitVec.ofInt_natCast, BitVec.toNat_ofNat, Nat.mod_eq_of_lt (by omega)]
  rw [e2] at e
  rw [i6_tn (((i6 W).toUInt64 >>> ((i3 n).toInt64.toUInt64 &&& Int64.toUInt64 63)).toInt64), e]
theorem nm_dig : ∀ f w, nmF f w → ∀ i, i < nmL f w → 97 ≤ w / 256 ^ i % 256
  | 0, w, _, i, hi => by rw [nmL] at hi; omega
  | f + 1, w, h, i, hi => by
    rw [nmL] at hi
    by_cases q : w = 0
    · rw [if_pos q] at hi; omega
    · rw [if_neg q] at hi
      rcases h with h | ⟨h1, h2, h3⟩
      · exact absurd h q
      · cases i with
        | zero => rw [Nat.pow_zero, Nat.div_one]; exact h1
        | succ i =>
          have := nm_dig f _ h3 i (by omega)
          rw [Nat.div_div_eq_div_mul, ← Nat.pow_succ'] at this
          exact this
section NM
variable {b : Nat} {S : mjS} {Z Zm : mjZt}
theorem e130 {V : Nat} (hV : V < 2 ^ 40) {k : Int} (hk : 0 ≤ k ∧ k ≤ 2147483647) : f130_letter (i6 V) (i3 k) Z = some (i3 (if k < 8 then ((V / 32 ^ k.toNat % 32 : Nat) : Int) else 0)) := by
  unfold f130_letter
  rw [show (0 : Int32) = i3 0 from rfl, if_neg (by rw [c_lt (by omega)]; omega), show (8 : Int32) = i3 8 from rfl]
  by_cases q : k < 8
  · obtain ⟨n, rfl⟩ : ∃ n : Nat, k = n := ⟨k.toNat, by omega⟩
    have e := shr_mod (W := V) (n := 5 * n) (p := 5) (by omega) (by omega) (by omega)
    rw [if_pos (by rw [c_lt (by omega)]; omega), if_pos q, show (5 : Int32) = i3 5 from rfl, i3_mul, show (31 : Int64) = i6 ((2 ^ 5 - 1 : Nat) : Int) from rfl, show (5 : Int) * (n : Int) = ((5 * n : Nat) : Int) by omega, e, i63, Int.toNat_natCast, Nat.pow_mul]
  · rw [if_neg (by rw [c_lt (by omega)]; omega), if_neg q]
theorem m253h {W : Nat} (hW : W < 2 ^ 63) (x3 : Int32) : ∀ (f i n : Nat), i + f = 8 → f < n → f253_name_h70 n x3 (i6 W) (i3 i) Z = f253_name_j96 x3 (i6 W) (i3 ((i + nmL f (W / 256 ^ i) : Nat) : Int)) Z
  | f, i, 0, _, hn => by omega
  | 0, i, n + 1, hf, _ => by
    obtain rfl : i = 8 := by omega
    rw [f253_name_h70, if_pos (by decide)]; rfl
  | f + 1, i, n + 1, hf, hn => by
    have ih := m253h hW x3 f (i + 1) n (by omega) (by omega)
    have e : W / 2 ^ (8 * i) = W / 256 ^ i := by rw [Nat.pow_mul]
    have lt : W / 256 ^ i < 2 ^ 63 := Nat.lt_of_le_of_lt (Nat.div_le_self _ _) hW
    rw [f253_name_h70, show (8 : Int32) = i3 8 from rfl, if_neg (by rw [c_ge (by omega)]; omega), i3_mul, show (8 : Int) * (i : Int) = ((8 * i : Nat) : Int) by omega, ush_n hW (by omega), e, i3_s, nmL]
    generalize hV : W / 256 ^ i = V at *
    by_cases q : V = 0
    · rw [if_pos (by rw [lg_eq, q]; rfl), if_pos q]; rfl
    · have q2 : ¬ (i6 (V : Int) = i6 0) := fun g => by
        have := congrArg Int64.toInt g
        rw [i6_int (by omega), i6_int (by omega)] at this
        omega
      rw [if_neg (by rw [lg_eq]; exact q2), if_neg q, ih, ← hV, Nat.div_div_eq_div_mul, ← Nat.pow_succ, show i + 1 + nmL f (W / 256 ^ (i + 1)) = i + (nmL f (W / 256 ^ (i + 1)) + 1) by omega]
theorem m253 {W : Nat} (h : nmF 8 W) {k : Int} (hk : 0 ≤ k ∧ k ≤ 2147483647) : f253_name_j65 (i3 k) (i6 W) Z = some (i3 (if k < 8 then ((cvN 8 W / 32 ^ k.toNat % 32 : Nat) : Int) else 0)) := by
  have hW : W < 2 ^ 63 := Nat.lt_trans (nm_bd 7 W h) (by decide)
  have e := m253h (Z := Z) hW (i3 k) 8 0 mjF (by omega) (by decide)
  have l8 := nmL_le 8 W
  unfold f253_name_j65
  rw [show (0 : Int32) = i3 ((0 : Nat) : Int) from rfl, e, Nat.pow_zero, Nat.div_one, Nat.zero_add]
  unfold f253_name_j96
  have dg := cv_dig 8 W h k.toNat
  by_cases q : nmL 8 W ≤ k
  · rw [if_pos (by rw [c_ge (by omega)]; omega)]
    rw [if_neg (by omega)] at dg
    rw [dg]
    split <;> rfl
  · obtain ⟨n, rfl⟩ : ∃ n : Nat, k = n := ⟨k.toNat, by omega⟩
    rw [Int.toNat_natCast] at dg ⊢
    rw [if_pos (by omega)] at dg
    have e2 := shr_mod (W := W) (n := 8 * (nmL 8 W - 1 - n)) (p := 8) hW (by omega) (by omega)
    have hb : 97 ≤ W / 256 ^ (nmL 8 W - 1 - n) % 256 := nm_dig 8 W h _ (by omega)
    rw [if_neg (by rw [c_ge (by omega)]; omega), i3_p, i3_sub, show (8 : Int32) = i3 8 from rfl, i3_mul, show (8 : Int) * ((nmL 8 W : Int) - 1 - (n : Int)) = ((8 * (nmL 8 W - 1 - n) : Nat) : Int) by omega, show (255 : Int64) = i6 ((2 ^ 8 - 1 : Nat) : Int) from rfl, e2, i63, Nat.pow_mul, show (97 : Int32) = i3 97 from rfl, i3_sub, i3_s0, if_pos (by omega), dg]
    congr 2
    show ((W / 256 ^ (nmL 8 W - 1 - n) % 256 : Nat) : Int) - 97 + 1 = _
    omega
def okN (S : mjS) : Prop := (∀ t, t < sT S → ∃ w : Nat, S 11 t = w ∧ nmF 8 w) ∧ ∀ r, r < sR S → ∃ w : Nat, S 12 r = w ∧ nmF 8 w
theorem cv_40 {w : Nat} (h : nmF 8 w) : cvN 8 w < 2 ^ 40 := Nat.lt_of_lt_of_le (cv_lt 8 w h) (by
  have := Nat.pow_le_pow_right (show 0 < 32 by decide) (nmL_le 8 w)
  exact this)
theorem q_name (hb : Z.2.2.1 = b) (h : cBk Z b S) (ho : okS S) (hn : okN S) (hm : mRep Zm S) (x y z : Int32) : ∃ v, f155_name x y z Z = some v ∧ f253_name x y z Zm = some v := by
  have o1 := ok_sc ho
  have hb2 := b_b h
  obtain ⟨k, rfl, hk1, hk2⟩ := i3_ex z
  obtain ⟨a, rfl, ha1, ha2⟩ := i3_ex x
  unfold f155_name f253_name
  rw [hb, show (0 : Int32) = i3 0 from rfl, show (1 : Int32) = i3 1 from rfl]
  by_cases q0 : a = 0
  · subst q0
    rcases tm_cases S y with ⟨t, rfl, ht⟩ | ⟨t, rfl, ht⟩
    · obtain ⟨w, w1, w2⟩ := hn.1 t ht
      by_cases q : 0 ≤ k
      · refine ⟨i3 (if k < 8 then ((cvN 8 w / 32 ^ k.toNat % 32 : Nat) : Int) else 0), ?_, ?_⟩
        · rw [if_pos (by rw [c_ge (by omega)]; omega), if_neg (by decide), if_pos (is_b hb2), e7t h ho ht, mjBp_some, if_neg (by decide), e8 h ho ht, mjBp_some, if_pos (is_tm hb2 t (by omega)), (b_tm h ht).2.2.1, w1, show sCv (w : Int) = (cvN 8 w : Int) from sCv_c 8 w w2, e130 (cv_40 w2) (by omega), mjBp_some]
        · rw [if_neg (by decide), m_T hm]
          unfold f253_name_j24
          rw [i3_p, i36 (by omega), i36 (by omega), show (0 : Int64) = i6 0 from rfl, m195t (by omega), mjBp_some, if_neg (by decide), show (0 : Int32) = i3 0 from rfl, if_pos (by rw [c_ge (by omega)]; omega), if_neg (by decide), if_pos (in_p (by omega)), ix_nat (by omega), m_nt hm, w1, m253 w2 (by omega)]
      · refine ⟨i3 (-1), ?_, ?_⟩
        · rw [if_neg (by rw [c_ge (by omega)]; omega)]; rfl
        · rw [if_neg (by decide), m_T hm]
          unfold f253_name_j24
          rw [i3_p, i36 (by omega), i36 (by omega), show (0 : Int64) = i6 0 from rfl, m195t (by omega), mjBp_some, if_neg (by decide), show (0 : Int32) = i3 0 from rfl, if_neg (by rw [c_ge (by omega)]; omega)]; rfl
    · refine ⟨i3 (-1), ?_, ?_⟩
      · by_cases q : 0 ≤ k
        · rw [if_pos (by rw [c_ge (by omega)]; omega), if_neg (by decide), if_pos (is_b hb2), e7f h ho ht, mjBp_some, if_pos (by decide)]
          unfold f155_name_j37
          rw [if_pos (by decide)]; rfl
        · rw [if_neg (by rw [c_ge (by omega)]; omega)]; rfl
      · rw [if_neg (by decide), m_T hm]
        unfold f253_name_j24
        rw [i3_p, i36 (by omega), i36 (by omega), show (0 : Int64) = i6 0 from rfl, m195f (by omega), mjBp_some, if_pos (by decide)]; rfl
  · by_cases q1 : a = 1
    · subst q1
      rcases rl_cases S y with ⟨r, rfl, hr⟩ | ⟨r, rfl, hr⟩
      · obtain ⟨w, w1, w2⟩ := hn.2 r hr
        have e22 : f22_nameOfRule b (i3 r) Z = some (Z.2.1 (b + 10) r) := by
          unfold f22_nameOfRule
          rw [if_pos (is_b hb2), e21 (is_b10 hb2).1 (is_b10 hb2).2 (by omega) (by omega), mjBp_some, Int.toNat_natCast]
        by_cases q : 0 ≤ k
        · refine ⟨i3 (if k < 8 then ((cvN 8 w / 32 ^ k.toNat % 32 : Nat) : Int) else 0), ?_, ?_⟩
          · rw [if_pos (by rw [c_ge (by omega)]; omega), if_pos (by decide)]
            unfold f155_name_j37
            rw [if_neg (by decide), hb, if_pos (is_b hb2), e16t h ho hr, mjBp_some, if_neg (by decide), e22, mjBp_some, (b_rl h hr).2, w1, show sCv (w : Int) = (cvN 8 w : Int) from sCv_c 8 w w2, e130 (cv_40 w2) (by omega), mjBp_some]
          · rw [if_pos (by decide), if_neg (by decide), m_R hm]
            unfold f253_name_j24
            rw [i3_p, i36 (by omega), i36 (by omega), show (0 : Int64) = i6 0 from rfl, m195t (by omega), mjBp_some, if_neg (by decide), show (0 : Int32) = i3 0 from rfl, if_pos (by rw [c_ge (by omega)]; omega), if_pos (by decide), if_pos (in_p (by omega)), ix_nat (by omega), m_nr hm, w1, m253 w2 (by omega)]
        · refine ⟨i3 (-1), ?_, ?_⟩
          · rw [if_neg (by rw [c_ge (by omega)]; omega)]; rfl
          · rw [if_pos (by decide), if_neg (by decide), m_R hm]
            unfold f253_name_j24
            rw [i3_p, i36 (by omega), i36 (by omega), show (0 : Int64) = i6 0 from rfl, m195t (by omega), mjBp_some, if_neg (by decide), show (0 : Int32) = i3 0 from rfl, if_neg (by rw [c_ge (by omega)]; omega)]; rfl
      · refine ⟨i3 (-1), ?_, ?_⟩
        · by_cases q : 0 ≤ k
          · rw [if_pos (by rw [c_ge (by omega)]; omega), if_pos (by decide)]
            unfold f155_name_j37
            rw [if_neg (by decide), hb, if_pos (is_b hb2), e16f h ho hr, mjBp_some, if_pos (by decide)]; rfl
          · rw [if_neg (by rw [c_ge (by omega)]; omega)]; rfl
        · rw [if_pos (by decide), if_neg (by decide), m_R hm]
          unfold f253_name_j24
          rw [i3_p, i36 (by omega), i36 (by omega), show (0 : Int64) = i6 0 from rfl, m195f (by omega), mjBp_some, if_pos (by decide)]; rfl
    · obtain ⟨c, rfl, hc1, hc2⟩ := i3_ex y
      refine ⟨i3 (-1), ?_, ?_⟩
      · by_cases q : 0 ≤ k
        · rw [if_pos (by rw [c_ge (by omega)]; omega), if_pos (by rw [c_ne (by omega)]; exact q0)]
          unfold f155_name_j37
          rw [show (1 : Int32) = i3 1 from rfl, if_pos (by rw [c_ne (by omega)]; exact q1)]; rfl
        · rw [if_neg (by rw [c_ge (by omega)]; omega)]; rfl
      · rw [if_pos (by rw [c_ne (by omega)]; exact q0), if_pos (by rw [c_ne (by omega)]; exact q1)]
        unfold f253_name_j24
        rw [i3_p, i36 (by omega), i36 (by omega), show (0 : Int64) = i6 0 from rfl, m195f (by omega), mjBp_some, if_pos (by decide)]; rfl
theorem q_about (hb : Z.2.2.1 = b) (h : cBk Z b S) (hd : cDr Z b S) (ho : okS S) (hm : mRep Zm S) (hu : Z.1 209 2 = Zm.1 211 56) (hf : Z.1 0 1 = Zm.1 211 1) (x : Int32) : ∃ v, f154_about x Z = some v ∧ f252_about x Zm = some v := by
  have hb2 := b_b h
  obtain ⟨k, rfl, hk1, hk2⟩ := i3_ex x
  unfold f154_about f252_about
  rw [hb, i3_int (by omega), i36 (by omega), show (0 : Int64) = i6 0 from rfl, show (4 : Int64) = i6 4 from rfl]
  by_cases q : k < 0 ∨ 12 < k
  · refine ⟨i3 (-1), by rw [if_pos q]; rfl, ?_⟩
    rw [m195f (by omega), mjBp_some, if_pos (by decide), if_pos (by omega)]; rfl
  · rcases (by omega : k = 0 ∨ k = 1 ∨ k = 2 ∨ k = 3 ∨ k = 4 ∨ k = 5 ∨ k = 6 ∨ k = 7 ∨ k = 8 ∨ k = 9 ∨ k = 10 ∨ k = 11 ∨ k = 12) with rfl | rfl | rfl | rfl | rfl | rfl | rfl | rfl | rfl | rfl | rfl | rfl | rfl
    · refine ⟨i3 (S 0 0), ?_, ?_⟩
      · rw [if_neg (by decide), if_pos (by decide), if_pos (is_b hb2), b_tr h (k := 0) (by omega)]
      · rw [m195t (by omega), mjBp_some, if_neg (by decide), if_pos (in_p (by omega)), ix_i3 (by omega), m_tr hm]; rfl
    · refine ⟨i3 (S 0 1), ?_, ?_⟩
      · rw [if_neg (by decide), if_neg (by decide), if_pos (by decide), if_pos (is_b hb2), b_tr h (k := 1) (by omega)]
      · rw [m195t (by omega), mjBp_some, if_neg (by decide), if_pos (in_p (by omega)), ix_i3 (by omega), m_tr hm]; rfl
    · refine ⟨i3 (S 0 2), ?_, ?_⟩
      · rw [if_neg (by decide), if_neg (by decide), if_neg (by decide), if_pos (by decide), if_pos (is_b hb2), b_tr h (k := 2) (by omega)]
      · rw [m195t (by omega), mjBp_some, if_neg (by decide), if_pos (in_p (by omega)), ix_i3 (by omega), m_tr hm]; rfl
    · refine ⟨i3 (S 0 3), ?_, ?_⟩
      · rw [if_neg (by decide), if_neg (by decide), if_neg (by decide), if_neg (by decide), if_pos (by decide), if_pos (is_b hb2), b_tr h (k := 3) (by omega)]
      · rw [m195t (by omega), mjBp_some, if_neg (by decide), if_pos (in_p (by omega)), ix_i3 (by omega), m_tr hm]; rfl
    · refine ⟨i3 (S 0 4), ?_, ?_⟩
      · rw [if_neg (by decide), if_neg (by decide), if_neg (by decide), if_neg (by decide), if_neg (by decide), if_pos (by decide), if_pos (is_b hb2), b_tr h (k := 4) (by omega)]
      · rw [m195t (by omega), mjBp_some, if_neg (by decide), if_pos (in_p (by omega)), ix_i3 (by omega), m_tr hm]; rfl
    · refine ⟨i3 (sT S), ?_, ?_⟩
      · rw [if_neg (by decide), if_neg (by decide), if_neg (by decide), if_neg (by decide), if_neg (by decide), if_neg (by decide), if_pos (by decide), if_pos (is_b hb2), b_T h]
      · rw [m195f (by omega), mjBp_some, if_pos (by decide), if_neg (by decide), if_pos (by decide), m_T hm]
    · refine ⟨i3 (sAll S), ?_, ?_⟩
      · rw [if_neg (by decide), if_neg (by decide), if_neg (by decide), if_neg (by decide), if_neg (by decide), if_neg (by decide), if_neg (by decide), if_pos (by decide), if_pos (is_b hb2), d_all hd]
      · rw [m195f (by omega), mjBp_some, if_pos (by decide), if_neg (by decide), if_neg (by decide), if_pos (by decide), m251 hm ho, mjBp_some]
    · refine ⟨i3 (sA S), ?_, ?_⟩
      · rw [if_neg (by decide), if_neg (by decide), if_neg (by decide), if_neg (by decide), if_neg (by decide), if_neg (by decide), if_neg (by decide), if_neg (by decide), if_pos (by decide), if_pos (is_b hb2), b_A h]
      · rw [m195f (by omega), mjBp_some, if_pos (by decide), if_neg (by decide), if_neg (by decide), if_neg (by decide), if_pos (by decide), m_A hm]
    · refine ⟨i3 (sR S), ?_, ?_⟩
      · rw [if_neg (by decide), if_neg (by decide), if_neg (by decide), if_neg (by decide), if_neg (by decide), if_neg (by decide), if_neg (by decide), if_neg (by decide), if_neg (by decide), if_pos (by decide), if_pos (is_b hb2), b_R h]
      · rw [m195f (by omega), mjBp_some, if_pos (by decide), if_neg (by decide), if_neg (by decide), if_neg (by decide), if_neg (by decide), if_pos (by decide), m_R hm]
    · refine ⟨i3 (S 10 3), ?_, ?_⟩
      · rw [if_neg (by decide), if_neg (by decide), if_neg (by decide), if_neg (by decide), if_neg (by decide), if_neg (by decide), if_neg (by decide), if_neg (by decide), if_neg (by decide), if_neg (by decide), if_pos (by decide), if_pos (is_b hb2), b_th h]
      · rw [m195f (by omega), mjBp_some, if_pos (by decide), if_neg (by decide), if_neg (by decide), if_neg (by decide), if_neg (by decide), if_neg (by decide), if_pos (by decide), m_th hm]
    · refine ⟨i3 (S 10 4), ?_, ?_⟩
      · rw [if_neg (by decide), if_neg (by decide), if_neg (by decide), if_neg (by decide), if_neg (by decide), if_neg (by decide), if_neg (by decide), if_neg (by decide), if_neg (by decide), if_neg (by decide), if_neg (by decide), if_pos (by decide), if_pos (is_b hb2), b_wi h]
      · rw [m195f (by omega), mjBp_some, if_pos (by decide), if_neg (by decide), if_neg (by decide), if_neg (by decide), if_neg (by decide), if_neg (by decide), if_neg (by decide), if_pos (by decide), m_wi hm]
    · refine ⟨Zm.1 211 56, ?_, ?_⟩
      · rw [if_neg (by decide), if_neg (by decide), if_neg (by decide), if_neg (by decide), if_neg (by decide), if_neg (by decide), if_neg (by decide), if_neg (by decide), if_neg (by decide), if_neg (by decide), if_neg (by decide), if_neg (by decide), if_pos (by decide), hu]
      · rw [m195f (by omega), mjBp_some, if_pos (by decide), if_neg (by decide), if_neg (by decide), if_neg (by decide), if_neg (by decide), if_neg (by decide), if_neg (by decide), if_neg (by decide), if_pos (by decide)]
    · refine ⟨Zm.1 211 1, ?_, ?_⟩
      · rw [if_neg (by decide), if_neg (by decide), if_neg (by decide), if_neg (by decide), if_neg (by decide), if_neg (by decide), if_neg (by decide), if_neg (by decide), if_neg (by decide), if_neg (by decide), if_neg (by decide), if_neg (by decide), if_neg (by decide), if_pos (by decide), hf]
      · rw [m195f (by omega), mjBp_some, if_pos (by decide), if_neg (by decide), if_neg (by decide), if_neg (by decide), if_neg (by decide), if_neg (by decide), if_neg (by decide), if_neg (by decide), if_neg (by decide), if_pos (by decide)]
end NM
