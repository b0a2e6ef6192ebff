/-! what the law's runs ask of the class, by value-/
section RV9
variable {b : Nat} {S : mjS} {Z Z2 : mjZt} {L : Nat} {xs : Nat → Int32}
def scZ (Z : mjZt) (L : Nat) (xs : Nat → Int32) : Prop := L ≤ 260 ∧ Z.1 2000001 0 = i3 L ∧ ∀ k, k < L → Z.1 2000000 k = xs k
theorem x_cell {k : Nat} (h : scZ Z L xs) (hk : k ≤ 100000) : f684_cell (i3 k) Z = some (clN L xs k) := by
  obtain ⟨hL, h1, h2⟩ := h
  unfold f684_cell clN
  rw [h1]
  by_cases q : k < L
  · rw [if_neg (by rw [c_ge (by omega)]; omega), if_pos q, i3_int (by omega), i3_int (by omega), if_pos (by omega), ix_nat (by omega), h2 k q]
  · rw [if_pos (by rw [c_ge (by omega)]; omega), if_neg q]
theorem x_pick {k n : Nat} (h : scZ Z L xs) (hk : k ≤ 100000) (hn : 0 < n ∧ n ≤ 100000) : f685_pick (i3 k) (i3 n) Z = some (i3 (pkN L xs k n : Nat)) := by
  unfold f685_pick
  rw [x_cell h hk, mjBp_some, if_pos (by rw [show (0 : Int32) = i3 0 from rfl, i3_inj (by omega)]; omega)]
  have h0 := and_nn (clN L xs k)
  have h1 := (clN L xs k &&& 2147483647).toInt_lt
  unfold pkN
  generalize hz : (clN L xs k &&& 2147483647).toInt = z at h0 h1 ⊢
  have e : clN L xs k &&& 2147483647 = i3 z := by rw [← hz, i3_toInt]
  rw [e, i3_div (by omega), i3_mul, i3_sub]
  congr 2
  have := Int.emod_def z n
  have h3 : ((z.toNat % n : Nat) : Int) = z % (n : Int) := by
    rw [Int.natCast_emod, Int.toNat_of_nonneg h0]
  rw [h3, this, Int.mul_comm]
theorem x_place (hb : Z.2.2.1 = b) (h : cBk Z b S) (hd : cDr Z b S) (ho : okS S) {t : Nat} (ht : t < sT S) {k : Int} (hk : 0 ≤ k ∧ k ≤ 9999) : f159_place (i3 t) (i3 k) Z = some (i3 (sPl S t k)) := by
  have o1 := ok_sc ho
  unfold f159_place
  rw [hb, if_pos (is_b (b_b h)), e7t h ho ht, mjBp_some, if_neg (by decide), e158t hk, mjBp_some, if_pos (by decide), e8 h ho ht, mjBp_some, if_pos (is_tm (b_b h) t (by omega)), e73 h hd ho ht (by omega), mjBp_some]
theorem x_comes (hb : Z.2.2.1 = b) (h : cBk Z b S) (hd : cDr Z b S) (ho : okS S) {t : Nat} (ht : t < sT S) {p : Int} (hp : 0 ≤ p ∧ p ≤ 2147483647) : f160_comes (i3 t) (i3 p) Z = some (i3 (sAr S t p)) := by
  have o1 := ok_sc ho
  unfold f160_comes
  rw [hb, if_pos (is_b (b_b h)), e7t h ho ht, mjBp_some, if_neg (by decide), if_pos (by rw [show (0 : Int32) = i3 0 from rfl, c_ge (by omega)]; omega), e8 h ho ht, mjBp_some, if_pos (is_tm (b_b h) t (by omega)), e104 h hd ho ht (by omega), mjBp_some]
theorem x_team1 (hb : Z.2.2.1 = b) (h : cBk Z b S) (ho : okS S) {t : Nat} (ht : t < sT S) : f156_team (i3 t) 1 Z = some (i3 (sTd S t)) := by
  have o1 := ok_sc ho
  unfold f156_team
  rw [hb, if_pos (is_b (b_b h)), e7t h ho ht, mjBp_some, if_pos (by decide), e8 h ho ht, mjBp_some, if_neg (by decide), if_neg (by decide), if_pos (by decide), if_pos (is_tm (b_b h) t (by omega)), b_td h ht]
theorem x_team2 (hb : Z.2.2.1 = b) (h : cBk Z b S) (hd : cDr Z b S) (ho : okS S) {t : Nat} (ht : t < sT S) : f156_team (i3 t) 2 Z = some (i3 (sTm S t)) := by
  have o1 := ok_sc ho
  unfold f156_team
  rw [hb, if_pos (is_b (b_b h)), e7t h ho ht, mjBp_some, if_pos (by decide), e8 h ho ht, mjBp_some, if_neg (by decide), if_neg (by decide), if_neg (by decide), if_pos (by decide), if_pos (is_tm (b_b h) t (by omega)), e99 h hd ho ht, mjBp_some]
theorem x_team3 (hb : Z.2.2.1 = b) (h : cBk Z b S) (ho : okS S) {t : Nat} (ht : t < sT S) : f156_team (i3 t) 3 Z = some (if sTd S t = sLg S then 1 else 0) := by
  have o1 := ok_sc ho
  unfold f156_team
  rw [hb, if_pos (is_b (b_b h)), e7t h ho ht, mjBp_some, if_pos (by decide), e8 h ho ht, mjBp_some, if_neg (by decide), if_neg (by decide), if_neg (by decide), if_neg (by decide), if_pos (by decide), e23 h ho ht, mjBp_some]
  by_cases q : sTd S t = sLg S
  · rw [if_pos q, if_pos q, if_neg (by decide)]
  · rw [if_neg q, if_neg q, if_pos (by decide)]
theorem x_leg0 (hb : Z.2.2.1 = b) (h : cBk Z b S) (ho : okS S) {t l : Nat} (ht : t < sT S) (hl : l < sTd S t) : f168_leg (i3 t) (i3 ((l : Int) + 1)) 0 Z = some (i3 (sTn S t l)) := by
  have o1 := ok_sc ho
  unfold f168_leg
  rw [hb, if_pos (is_b (b_b h)), e19t h ho ht (by omega), mjBp_some, if_pos (by decide), e8 h ho ht, mjBp_some, if_neg (by decide), if_pos (by decide), if_pos (is_tm (b_b h) t (by omega)), e108 h ho ht hl, mjBp_some]
theorem x_leg1 (hb : Z.2.2.1 = b) (h : cBk Z b S) (hd : cDr Z b S) (ho : okS S) {t l : Nat} (ht : t < sT S) (hl : l < sTd S t) : f168_leg (i3 t) (i3 ((l : Int) + 1)) 1 Z = some (i3 (sEn S t (l + 1))) := by
  have o1 := ok_sc ho
  unfold f168_leg
  rw [hb, if_pos (is_b (b_b h)), e19t h ho ht (by omega), mjBp_some, if_pos (by decide), e8 h ho ht, mjBp_some, if_neg (by decide), if_neg (by decide), if_pos (by decide), if_pos (is_tm (b_b h) t (by omega)), e34 h hd ho ht hl, mjBp_some]
theorem x_leg2 (hb : Z.2.2.1 = b) (h : cBk Z b S) (ho : okS S) {t l : Nat} (ht : t < sT S) (hl : l < sTd S t) : f168_leg (i3 t) (i3 ((l : Int) + 1)) 2 Z = some (i3 (sMt S t l)) := by
  have o1 := ok_sc ho
  unfold f168_leg
  rw [hb, if_pos (is_b (b_b h)), e19t h ho ht (by omega), mjBp_some, if_pos (by decide), e8 h ho ht, mjBp_some, if_neg (by decide), if_neg (by decide), if_neg (by decide), if_pos (by decide), if_pos (is_tm (b_b h) t (by omega)), e32 h ho ht hl, mjBp_some]
theorem x_inBox (hb : Z.2.2.1 = b) (h : cBk Z b S) (hd : cDr Z b S) (ho : okS S) {t : Nat} (ht : t < sT S) {k : Int} (hk : 0 ≤ k ∧ k ≤ 9999) : f169_inBox (i3 t) (i3 k) Z = some (if inB S (sPl S t k) (max 1 (sLg S) - 1) 1 = true then 1 else 0) := by
  have o1 := ok_sc ho
  have p1 := pl_bd ho ht k
  have e1 := e38h h ho p1 (max 1 (sLg S) - 1) 1 mjF (by omega) (by omega) (by unfold mjF; omega)
  have e1' : f38_isInABox b (i3 (sPl S t k)) Z = some (i3 (if inB S (sPl S t k) (max 1 (sLg S) - 1) 1 = true then 1 else 0)) := e1
  unfold f169_inBox
  rw [hb, if_pos (is_b (b_b h)), e7t h ho ht, mjBp_some, if_neg (by decide), e158t hk, mjBp_some, if_pos (by decide), e8 h ho ht, mjBp_some, if_pos (is_tm (b_b h) t (by omega)), e73 h hd ho ht (by omega), mjBp_some, e1', mjBp_some]
  by_cases q : inB S (sPl S t k) (max 1 (sLg S) - 1) 1 = true
  · rw [if_pos q, if_pos q, if_neg (by decide)]
  · rw [if_neg q, if_neg q, if_pos (by decide)]
theorem x_changes (hb : Z.2.2.1 = b) (h : cBk Z b S) (hd : cDr Z b S) (ho : okS S) {t u : Nat} (ht : t < sT S) (hu : u < sT S) (htu : t ≠ u) : f163_changes (i3 t) (i3 u) Z = some (i3 (chN (fun k => sPl S t (k : Nat) - sPl S u (k : Nat)) (lasN S + 1))) := by
  have o1 := ok_sc ho
  have o5 := las_bd ho
  have e : f103_leadChanges_h16 mjF b (i3 t) (i3 u) (i3 (lasN S)) (i3 0) (i3 (-1)) (i3 0) Z = some (i3 (chN (fun k => sPl S t (k : Nat) - sPl S u (k : Nat)) (lasN S + 1))) := e103h h hd ho ht hu htu rfl (lasN S + 1) 0 mjF (by omega) (by unfold mjF; omega)
  have e2 : f103_leadChanges b (i3 t) (i3 u) Z = some (i3 (chN (fun k => sPl S t (k : Nat) - sPl S u (k : Nat)) (lasN S + 1))) := by
    unfold f103_leadChanges
    rw [e100 h hd ho, mjBp_some]; exact e
  unfold f163_changes
  rw [hb, if_pos (is_b (b_b h)), e7t h ho ht, mjBp_some, if_neg (by decide), e7t h ho hu, mjBp_some, if_neg (by decide), if_pos (by rw [c_ne (by omega)]; omega), e2, mjBp_some]
theorem x_ab0 (hb : Z.2.2.1 = b) (h : cBk Z b S) : f154_about 0 Z = some (i3 (S 0 0)) := by
  unfold f154_about
  rw [hb, if_neg (by decide), if_pos (by decide), if_pos (is_b (b_b h)), b_tr0 h]
theorem x_ab1 (hb : Z.2.2.1 = b) (h : cBk Z b S) : f154_about 1 Z = some (i3 (S 0 1)) := by
  unfold f154_about
  rw [hb, if_neg (by decide), if_neg (by decide), if_pos (by decide), if_pos (is_b (b_b h)), b_tr1 h]
theorem x_ab2 (hb : Z.2.2.1 = b) (h : cBk Z b S) : f154_about 2 Z = some (i3 (S 0 2)) := by
  unfold f154_about
  rw [hb, if_neg (by decide), if_neg (by decide), if_neg (by decide), if_pos (by decide), if_pos (is_b (b_b h)), b_tr2 h]
theorem x_ab3 (hb : Z.2.2.1 = b) (h : cBk Z b S) : f154_about 3 Z = some (i3 (S 0 3)) := by
  unfold f154_about
  rw [hb, if_neg (by decide), if_neg (by decide), if_neg (by decide), if_neg (by decide), if_pos (by decide), if_pos (is_b (b_b h)), b_tr3 h]
theorem x_ab5 (hb : Z.2.2.1 = b) (h : cBk Z b S) : f154_about 5 Z = some (i3 (sT S)) := by
  unfold f154_about
  rw [hb, if_neg (by decide), if_neg (by decide), if_neg (by decide), if_neg (by decide), if_neg (by decide), if_neg (by decide), if_pos (by decide), if_pos (is_b (b_b h)), b_T h]
theorem x_ab6 (hb : Z.2.2.1 = b) (h : cBk Z b S) (hd : cDr Z b S) : f154_about 6 Z = some (i3 (sAll S)) := by
  unfold f154_about
  rw [hb, if_neg (by decide), if_neg (by decide), if_neg (by decide), if_neg (by decide), if_neg (by decide), if_neg (by decide), if_neg (by decide), if_pos (by decide), if_pos (is_b (b_b h)), d_all hd]
theorem x_ab7 (hb : Z.2.2.1 = b) (h : cBk Z b S) : f154_about 7 Z = some (i3 (sA S)) := by
  unfold f154_about
  rw [hb, if_neg (by decide), if_neg (by decide), if_neg (by decide), if_neg (by decide), if_neg (by decide), if_neg (by decide), if_neg (by decide), if_neg (by decide), if_pos (by decide), if_pos (is_b (b_b h)), b_A h]
theorem x_ab8 (hb : Z.2.2.1 = b) (h : cBk Z b S) : f154_about 8 Z = some (i3 (sR S)) := by
  unfold f154_about
  rw [hb, if_neg (by decide), if_neg (by decide), if_neg (by decide), if_neg (by decide), if_neg (by decide), if_neg (by decide), if_neg (by decide), if_neg (by decide), if_neg (by decide), if_pos (by decide), if_pos (is_b (b_b h)), b_R h]
theorem x_ab11 : f154_about 11 Z = some (Z.1 209 2) := by
  unfold f154_about
  rw [if_neg (by decide), if_neg (by decide), if_neg (by decide), if_neg (by decide), if_neg (by decide), if_neg (by decide), if_neg (by decide), if_neg (by decide), if_neg (by decide), if_neg (by decide), if_neg (by decide), if_neg (by decide), if_pos (by decide)]
/-! nobody goes back-/
theorem en_pos (h : okS S) {t l : Nat} (ht : t < sT S) (hl : l < sTd S t) : 0 < sEn S t (l + 1) := by
  have := en_bd h ht (l + 1) (by omega)
  omega
theorem pl_at (h : okS S) {t l : Nat} (ht : t < sT S) (hl : l < sTd S t) : sPl S t (sEn S t (l + 1)) = sPs S t (l + 1) := by
  have b2 := ok_leg h ht hl
  have e := en_step h ht hl
  rw [pl_leg h ht hl (en_pos h ht hl) (by omega) (by omega), show sEn S t (l + 1) - sEn S t l = sTn S t l by omega, Int.mul_ediv_cancel_left _ (by omega)]
  omega
theorem pl_ge (h : okS S) {t l : Nat} (ht : t < sT S) (hl : l ≤ sTd S t) {k : Int} (hk : sEn S t l ≤ k) : sPs S t l ≤ sPl S t k := by
  have b0 := ps_bd h ht l hl
  rcases pl_cases h ht k with q | ⟨m, hm, q0, q1, q2⟩ | ⟨q0, q1, q2⟩
  · have l0 : l = 0 := by
      rcases Nat.eq_zero_or_pos l with e | e
      · exact e
      · have := en_bd h ht l hl
        omega
    rw [pl_zero q, l0]
    exact Int.le_refl _
  · have b1 := ps_step h ht hm
    have b2 := ok_leg h ht hm
    rw [pl_leg h ht hm q0 q1 q2]
    rw [sEn] at q2
    have f := frac_bd (d := k - sEn S t m) (w := sPs S t (m + 1) - sPs S t m) (T := sTn S t m) (by omega) (by omega) (by omega) (by omega)
    have hml : l ≤ m + 1 := by
      rcases Nat.lt_or_ge (m + 1) l with q | q
      · have := en_mono h ht (l := m + 1) (l - (m + 1)) (by omega)
        rw [show m + 1 + (l - (m + 1)) = l by omega, sEn] at this
        have := en_bd h ht l hl
        have e1 := en_mono h ht (l := m + 2) (l - (m + 2)) (by omega)
        rw [show m + 2 + (l - (m + 2)) = l by omega, show m + 2 = (m + 1) + 1 from rfl, sEn, sEn] at e1
        have b3 := ok_leg h ht (l := m + 1) (by omega)
        omega
      · exact q
    by_cases e : l = m + 1
    · have ek : k = sEn S t m + sTn S t m := by
        rw [e, sEn] at hk; omega
      rw [ek, show sEn S t m + sTn S t m - sEn S t m = sTn S t m by omega, Int.mul_ediv_cancel_left _ (by omega), e]
      omega
    · have b3 := ps_mono h ht (l := l) (m - l) (by omega)
      rw [show l + (m - l) = m by omega] at b3
      omega
  · rw [pl_end h ht q0 (by omega)]
    have b3 := ps_mono h ht (l := l) (sTd S t - l) (by omega)
    rw [show l + (sTd S t - l) = sTd S t by omega] at b3
    omega
theorem pl_up (h : okS S) {t : Nat} (ht : t < sT S) {k k2 : Int} (hk : k ≤ k2) : sPl S t k ≤ sPl S t k2 := by
  rcases pl_cases h ht k with q | ⟨m, hm, q0, q1, q2⟩ | ⟨q0, q1, q2⟩
  · rw [pl_zero q]; exact (pl_bd h ht k2).1
  · by_cases g : k2 ≤ sEn S t (m + 1)
    · have b1 := ps_step h ht hm
      have b2 := ok_leg h ht hm
      rw [pl_leg h ht hm q0 q1 q2, pl_leg h ht hm (by omega) (by omega) g]
      have := Int.ediv_le_ediv (a := (k - sEn S t m) * (sPs S t (m + 1) - sPs S t m)) (b := (k2 - sEn S t m) * (sPs S t (m + 1) - sPs S t m)) (c := sTn S t m) (by omega) (Int.mul_le_mul_of_nonneg_right (by omega) (by omega))
      omega
    · exact Int.le_trans (pl_le h ht (l := m + 1) (by omega) q2) (pl_ge h ht (l := m + 1) (by omega) (by omega))
  · rw [pl_end h ht q0 (by omega), pl_end h ht q0 (by omega)]
    exact Int.le_refl _
theorem ar_at (h : okS S) {t l : Nat} (ht : t < sT S) (hl : l < sTd S t) : sAr S t (sPs S t (l + 1)) = sEn S t (l + 1) := by
  have e0 := pl_at h ht hl
  have b1 := ps_step h ht hl
  have b2 := ok_leg h ht hl
  have b3 := ps_bd h ht l (by omega)
  have b4 := en_bd h ht (l + 1) (by omega)
  have b5 := en_step h ht hl
  rcases ar_spec h ht (sPs S t (l + 1)) with ⟨g1, g2, g3, g4⟩ | ⟨g1, g2⟩
  · rcases Int.lt_or_le (sEn S t (l + 1)) (sAr S t (sPs S t (l + 1))) with q | q
    · have := g3 (sEn S t (l + 1)) (by omega) q
      omega
    · rcases Int.lt_or_le (sAr S t (sPs S t (l + 1))) (sEn S t (l + 1)) with q2 | q2
      · exfalso
        generalize sAr S t (sPs S t (l + 1)) = K at g1 g2 g3 g4 q q2
        rcases Int.lt_or_le (sEn S t l) K with q3 | q3
        · have b6 := en_bd h ht l (by omega)
          rw [pl_leg h ht hl (by omega) q3 (by omega)] at g4
          have g5 : (K - sEn S t l) * (sPs S t (l + 1) - sPs S t l) / sTn S t l < sPs S t (l + 1) - sPs S t l := by
            apply Int.ediv_lt_of_lt_mul (by omega)
            rw [Int.mul_comm (sPs S t (l + 1) - sPs S t l)]
            exact Int.mul_lt_mul_of_pos_right (by omega) (by omega)
          omega
        · have := pl_le h ht (l := l) (by omega) q3
          omega
      · omega
  · have := g2 (sEn S t (l + 1))
    omega
theorem ar_le (h : okS S) {t : Nat} (ht : t < sT S) {k : Int} (hk : 0 ≤ k) : 0 ≤ sAr S t (sPl S t k) ∧ sAr S t (sPl S t k) ≤ k ∧ (0 < sAr S t (sPl S t k) → sPl S t (sAr S t (sPl S t k) - 1) < sPl S t k) := by
  rcases ar_spec h ht (sPl S t k) with ⟨g1, g2, g3, g4⟩ | ⟨g1, g2⟩
  · refine ⟨g1, ?_, fun q => g3 _ (by omega) (by omega)⟩
    rcases Int.lt_or_le k (sAr S t (sPl S t k)) with q | q
    · have := g3 k hk q
      omega
    · exact q
  · have := g2 k
    omega
/-- where a baton passes, and the box of it-/
theorem inB_i {x : Int} : ∀ f i, inB S x f i = true ↔ ∃ j : Nat, i ≤ j ∧ j < i + f ∧ ((j : Int) * S 0 1 - S 0 2) * 10 ≤ x ∧ x ≤ ((j : Int) * S 0 1 + S 0 3) * 10
  | 0, i => by
    rw [inB]
    exact ⟨fun h => absurd h (by decide), fun ⟨j, h1, h2, _⟩ => by omega⟩
  | f + 1, i => by
    rw [inB, Bool.or_eq_true, inB_i f (i + 1)]
    constructor
    · rintro (h | ⟨j, h1, h2, h3⟩)
      · exact ⟨i, Nat.le_refl _, by omega, of_decide_eq_true h⟩
      · exact ⟨j, by omega, by omega, h3⟩
    · rintro ⟨j, h1, h2, h3⟩
      by_cases e : j = i
      · exact Or.inl (by rw [← e]; exact decide_eq_true h3)
      · exact Or.inr ⟨j, by omega, by omega, h3⟩
theorem box_at (h : okS S) {t l : Nat} (ht : t < sT S) (hl : l < sTd S t) (hL : l + 1 < sLg S) : (inB S (sPs S t (l + 1)) (max 1 (sLg S) - 1) 1 = true ↔ (-(S 0 2) ≤ sMt S t l ∧ sMt S t l ≤ S 0 3)) := by
  have b2 := ok_leg h ht hl
  have b4 := ok_tr h
  have b5 := ok_pos h (by omega)
  rw [inB_i]
  have e : sPs S t (l + 1) = 10 * (((l : Int) + 1) * S 0 1 + sMt S t l) := by rw [sPs]
  constructor
  · rintro ⟨j, h1, h2, h3, h4⟩
    rw [e] at h3 h4
    have lt1 : ¬ (l + 1 < j) := fun q => by
      have := Int.mul_le_mul_of_nonneg_right (c := S 0 1) (show ((l : Int) + 1) + 1 ≤ (j : Int) by omega) (by omega)
      rw [Int.add_mul ((l : Int) + 1) 1, Int.one_mul] at this
      omega
    have lt2 : ¬ (j < l + 1) := fun q => by
      have := Int.mul_le_mul_of_nonneg_right (c := S 0 1) (show (j : Int) + 1 ≤ (l : Int) + 1 by omega) (by omega)
      rw [Int.add_mul (j : Int) 1, Int.one_mul] at this
      omega
    have ej : (j : Int) = (l : Int) + 1 := by omega
    rw [ej] at h3 h4
    omega
  · intro ⟨h3, h4⟩
    refine ⟨l + 1, by omega, by omega, ?_, ?_⟩
    · rw [e]
      show ((((l + 1 : Nat) : Int)) * S 0 1 - S 0 2) * 10 ≤ _
      rw [show ((l + 1 : Nat) : Int) = (l : Int) + 1 from rfl]
      omega
    · rw [e]
      show _ ≤ ((((l + 1 : Nat) : Int)) * S 0 1 + S 0 3) * 10
      rw [show ((l + 1 : Nat) : Int) = (l : Int) + 1 from rfl]
      omega
/-- who leads changes as often, either way-/
theorem ch_neg {v : Nat → Int} : ∀ k, chA (fun j => -(v j)) k = -(chA v k) ∧ chN (fun j => -(v j)) k = chN v k
  | 0 => ⟨rfl, rfl⟩
  | k + 1 => by
    obtain ⟨h1, h2⟩ := ch_neg (v := v) k
    have s1 := sg_cases (v k)
    have s2 := sg_cases (-(v k))
    have sn : sgI (-(v k)) = -(sgI (v k)) := by omega
    have e1 : chA (fun j => -(v j)) (k + 1) = if -(v k) = 0 then chA (fun j => -(v j)) k else sgI (-(v k)) := rfl
    have e2 : chA v (k + 1) = if v k = 0 then chA v k else sgI (v k) := rfl
    have e3 : chN (fun j => -(v j)) (k + 1) = chN (fun j => -(v j)) k + (if -(v k) ≠ 0 ∧ chA (fun j => -(v j)) k = -(sgI (-(v k))) then 1 else 0) := rfl
    have e4 : chN v (k + 1) = chN v k + (if v k ≠ 0 ∧ chA v k = -(sgI (v k)) then 1 else 0) := rfl
    rw [e1, e2, e3, e4, h1, h2, sn]
    by_cases q : v k = 0
    · rw [if_pos (by omega), if_pos q, if_neg (by omega), if_neg (by omega)]
      exact ⟨rfl, rfl⟩
    · rw [if_neg (by omega), if_neg q]
      refine ⟨rfl, ?_⟩
      by_cases q2 : chA v k = -(sgI (v k))
      · rw [if_pos (by omega), if_pos ⟨q, q2⟩]
      · rw [if_neg (by omega), if_neg (fun g => q2 g.2)]
theorem ch_sw {t u : Nat} {k : Nat} : chN (fun k => sPl S t (k : Nat) - sPl S u (k : Nat)) k = chN (fun k => sPl S u (k : Nat) - sPl S t (k : Nat)) k := by
  have e : (fun k : Nat => sPl S u (k : Nat) - sPl S t (k : Nat)) = fun k : Nat => -((fun k : Nat => sPl S t (k : Nat) - sPl S u (k : Nat)) k) := by
    funext k
    show sPl S u (k : Nat) - sPl S t (k : Nat) = -(sPl S t (k : Nat) - sPl S u (k : Nat))
    omega
  rw [e, (ch_neg k).2]
end RV9
