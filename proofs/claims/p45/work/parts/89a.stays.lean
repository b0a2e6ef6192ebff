/-! STAYS: what is struck rests on how often again and how often forced -/
section SY
variable {b : Nat} {S : mjS} {W : Nat → Bool} {Z Zm : mjZt}
def gFk (S : mjS) (a : Nat) (ag fo : Int) (k : Nat) : Int := if k = 8 then ag else if k = 9 then fo else sFk S (fun _ => false) a (sTe S a) (sSz S a) k
theorem fk_g (a : Nat) : sFk S W a (sTe S a) (sSz S a) = gFk S a (cN (agP S W a (sTe S a)) (sAll S)) (cN (foP S W a (sTe S a)) (sA S)) := by
  funext k
  unfold gFk
  rcases (by omega : k = 0 ∨ k = 1 ∨ k = 2 ∨ k = 3 ∨ k = 4 ∨ k = 5 ∨ k = 6 ∨ k = 7 ∨ k = 8 ∨ k = 9 ∨ 10 ≤ k) with rfl | rfl | rfl | rfl | rfl | rfl | rfl | rfl | rfl | rfl | hk
  all_goals try rfl
  obtain ⟨k, rfl⟩ : ∃ k2, k = k2 + 10 := ⟨k - 10, by omega⟩
  rw [if_neg (by omega), if_neg (by omega)]
  rfl
def uns (S : mjS) (a : Nat) (ag fo : Int) : Bool := anyN (fun r => decide (sKd S a = S 7 r) && (sHo S (gFk S a ag fo) r 0 && !(hasEx S r && sHo S (gFk S a ag fo) r 1))) (sR S)
theorem any_fI {p : Nat → Bool} (n : Nat) : (anyN p n = false) = (fI p n 0 = -1) := by
  apply propext
  constructor
  · intro h; exact fI_none n 0 (fun i _ h2 => any_none n h i (by omega))
  · intro h; exact any_of n (fun i h2 => fI_neg n 0 i h (by omega) (by omega))
theorem stk_w {a : Nat} (h : W a = true) : stk S W a = false := by
  unfold stk fRu
  refine decide_eq_false (fun g => g (fI_none _ _ (fun i _ _ => ?_)))
  unfold sSt
  rw [h]; rfl
theorem stk_u {a : Nat} (h : W a = false) : stk S W a = uns S a (cN (agP S W a (sTe S a)) (sAll S)) (cN (foP S W a (sTe S a)) (sA S)) := by
  unfold stk fRu uns
  rw [← fk_g]
  have e : (fun r => sSt S W a (sTe S a) (sSz S a) r) = (fun r => decide (sKd S a = S 7 r) && (sHo S (sFk S W a (sTe S a) (sSz S a)) r 0 && !(hasEx S r && sHo S (sFk S W a (sTe S a) (sSz S a)) r 1))) := by
    funext r
    unfold sSt
    rw [h]; rfl
  rw [e]
  have g := any_fI (p := fun r => decide (sKd S a = S 7 r) && (sHo S (sFk S W a (sTe S a) (sSz S a)) r 0 && !(hasEx S r && sHo S (sFk S W a (sTe S a) (sSz S a)) r 1))) (sR S)
  cases q : anyN (fun r => decide (sKd S a = S 7 r) && (sHo S (sFk S W a (sTe S a) (sSz S a)) r 0 && !(hasEx S r && sHo S (sFk S W a (sTe S a) (sSz S a)) r 1))) (sR S)
  · rw [q] at g
    exact decide_eq_false (fun g2 => g2 (by rw [← g]))
  · rw [q] at g
    exact decide_eq_true (fun g2 => by rw [← g] at g2; exact absurd g2 (by decide))
theorem cN_rng {p : Nat → Bool} {lo m : Nat} : ∀ n, (∀ c, c < n → p c = true → lo ≤ c ∧ c < lo + m) → cN p n ≤ ((min n (lo + m) : Nat) : Int) - ((min n lo : Nat) : Int)
  | 0, _ => by simp [cN]
  | n + 1, h => by
    have ih := cN_rng n (fun c hc => h c (by omega))
    rw [cN]
    by_cases q : p n = true
    · have := h n (by omega) q
      rw [if_pos q]
      omega
    · rw [if_neg q]
      omega
theorem ag_bd (ho : okS S) {a : Nat} (ha : a < sAll S) {te : Int} : 0 ≤ cN (agP S W a te) (sAll S) ∧ cN (agP S W a te) (sAll S) ≤ 12 := by
  have o1 := ok_sc ho
  have g0 := cN_bd (agP S W a te) (sAll S)
  have ka := kd_bd ho (a := a)
  refine ⟨g0.1, ?_⟩
  by_cases q : a < sA S
  · have e : cN (agP S W a te) (sAll S) = cN (agP S W a te) (sA S) := cN_ext (sAll S) (by unfold sAll; omega) (fun c h1 h2 => by
      have kc := kd_bd ho (a := c)
      unfold agP
      rw [decide_eq_false (fun g => by have := g.1; omega), Bool.and_false])
    have := cN_bd (agP S W a te) (sA S)
    rw [e]; omega
  · obtain ⟨g1, g2, g3, g4, g5⟩ := bl_spec ho (K := a - sA S) (by unfold sAll at ha; omega)
    have hx := bx_le ho (t := sBt S (a - sA S))
    have := cN_rng (p := agP S W a te) (lo := sA S + sBs S (sBt S (a - sA S))) (m := sBx S (sBt S (a - sA S))) (sAll S) (fun c hc hp => by
      unfold agP at hp
      simp only [Bool.and_eq_true, decide_eq_true_eq] at hp
      have hp1 := hp.2.1
      have hp2 := hp.2.2.1
      have kc := kd_bd ho (a := c)
      have hc2 : ¬ c < sA S := fun g => by have := kc.2.2.1 g; omega
      obtain ⟨k1, k2, k3, k4, k5⟩ := bl_spec ho (K := c - sA S) (by unfold sAll at hc; omega)
      unfold sTmA at hp2
      rw [if_neg hc2, if_neg q] at hp2
      rw [hp2] at k4 k5
      omega)
    omega
theorem fo_bd (ho : okS S) (a : Nat) {te : Int} : 0 ≤ cN (foP S W a te) (sA S) ∧ cN (foP S W a te) (sA S) ≤ 12 := by
  have o1 := ok_sc ho
  have := cN_bd (foP S W a te) (sA S)
  omega
/-! bits of longs told by comparing -/
theorem lg_ne {y : Int64} : (mjCmp .ne (lg_cmp y 0) 0 = true) = ¬ (y = i6 0) := by
  have e := i6_toInt y
  have h1 := y.le_toInt
  have h2 := y.toInt_lt
  rw [← e, show (0 : Int64) = i6 0 from rfl, show (0 : Int32) = i3 0 from rfl]
  rcases (by omega : y.toInt < 0 ∨ y.toInt = 0 ∨ 0 < y.toInt) with q | q | q
  · rw [lg6_lt (by omega)]
    apply propext
    refine ⟨fun _ g => ?_, fun _ => by decide⟩
    have := congrArg Int64.toInt g
    rw [i6_int (by omega), i6_int (by omega)] at this
    omega
  · rw [lg6_eq q, q]
    apply propext
    exact ⟨fun g => absurd g (by decide), fun g => absurd rfl g⟩
  · rw [lg6_gt (by omega)]
    apply propext
    refine ⟨fun _ g => ?_, fun _ => by decide⟩
    have := congrArg Int64.toInt g
    rw [i6_int (by omega), i6_int (by omega)] at this
    omega
theorem lg_eq {y : Int64} : (mjCmp .eq (lg_cmp y 0) 0 = true) = (y = i6 0) := by
  have e := lg_ne (y := y)
  have h : (mjCmp .eq (lg_cmp y 0) 0 = true) = ¬ (mjCmp .ne (lg_cmp y 0) 0 = true) := by
    rw [ne_c, eq_c]; simp
  rw [h, e]; simp
theorem bit_z {x : Int64} {m : Nat} (hm : m < 64) : (x &&& (i6 1 <<< ((i3 m).toInt64 &&& 63)) = i6 0) = (b6 x m = false) := by
  apply propext
  constructor
  · intro h
    have := congrArg (fun y => b6 y m) h
    simp only [b6_and, b6_single hm hm, b6_0] at this
    simpa using this
  · intro h
    refine b6_ext (fun j hj => ?_)
    rw [b6_and, b6_single hm hj, b6_0]
    by_cases q : j = m
    · subst q; rw [h]; rfl
    · rw [decide_eq_false q, Bool.and_false]
theorem wv_z {w : Int64} {a : Nat} (ha : a < 64) : (mjCmp .ne (lg_cmp ((w >>> ((i3 a).toInt64 &&& 63)) &&& 1) 0) 0 = true) = (b6 w a = true) := by
  rw [show (1 : Int64) = i6 1 from rfl, b6_test ha, lg_ne]
  cases b6 w a
  · simp
  · simp; decide
theorem key_a : ∀ v : Nat, v < 256 → i3 v >>> ((6 : Int32) &&& 31) = i3 ((v / 64 : Nat) : Int) := by decide +kernel
theorem key_b : ∀ v : Nat, v < 256 → i3 v &&& 63 = i3 ((v % 64 : Nat) : Int) := by decide +kernel
/-! the class's memo -/
def mE (Z : mjZt) (S : mjS) : Prop := ∀ a, a < sAll S → ∀ j, j < 64 → b6 (Z.2.1 195 a) j = (decide (j < sAll S) && eaP S a (sTe S a) j) ∧ b6 (Z.2.1 196 a) j = (decide (j < sA S) && fcP S a (sTe S a) j)
def mM (Z : mjZt) (S : mjS) : Prop := ∀ a, a < sAll S → ∀ v, v < 256 → b6 (Z.2.1 198 (a * 4 + v / 64)) (v % 64) = (b6 (Z.2.1 197 (a * 4 + v / 64)) (v % 64) && uns S a ((v / 16 : Nat) : Int) ((v % 16 : Nat) : Int))
def unF (S : mjS) (W : Nat → Bool) (t : Nat) : Nat → Nat → Bool
  | 0, _ => true
  | f + 1, i => if sTmA S i = t ∧ stk S W i = true then false else unF S W t f (i + 1)
theorem e95h (ho : okS S) (hoc : okC S) {w : Int64} (hw : ∀ j, j < sAll S → b6 w j = W j) {t : Nat} (ht : t < 6) : ∀ f i n (Z : mjZt), i + f = sAll S → f < n → cBk Z b S → cDr Z b S → cTr Z b S → mE Z S → mM Z S → ∃ Z1, f95_isUnstruck_h3 n b (i3 t) w (i3 i) Z = some (i3 (if unF S W t f i = true then 1 else 0), Z1) ∧ eqQ Z Z1 ∧ mE Z1 S ∧ mM Z1 S
  | f, i, 0, _, _, hn, _, _, _, _, _ => by omega
  | 0, i, n + 1, Z, hf, _, h, hd, _, hE, hM => by
    obtain rfl : i = sAll S := by omega
    have oa := all_le ho
    exact ⟨Z, by rw [f95_isUnstruck_h3, if_pos (is_b (b_b h)), hd.1, if_pos (by rw [c_ge (by omega)]; omega)]; rfl, eqQ_rf, hE, hM⟩
  | f + 1, i, n + 1, Z, hf, hn, h, hd, htr, hE, hM => by
    have o1 := ok_sc ho
    have oa := all_le ho
    have hb := b_b h
    have hi : i < sAll S := by omega
    obtain ⟨a0, a1, a2, a3, a4⟩ := d_ac hd hi
    have tb := te_bd ho hi
    have sb := sz_bd ho hi
    have t2 := tmA_lt ho hi
    have gA := ag_bd ho hi (W := W) (te := sTe S i)
    have gF := fo_bd ho i (W := W) (te := sTe S i)
    obtain ⟨ag, hag⟩ : ∃ ag : Nat, cN (agP S W i (sTe S i)) (sAll S) = ag := ⟨(cN (agP S W i (sTe S i)) (sAll S)).toNat, by omega⟩
    obtain ⟨fo, hfo⟩ : ∃ fo : Nat, cN (foP S W i (sTe S i)) (sA S) = fo := ⟨(cN (foP S W i (sTe S i)) (sA S)).toNat, by omega⟩
    have c1 := cnt_wv ho hw (Q := agP S W i (sTe S i)) (Nat.le_refl (sAll S)) (fun j hj => (hE i hi j hj).1) (fun j hj => by
      unfold agP eaP
      congr 1
      simp only [decide_eq_decide]
      constructor
      · rintro ⟨g1, g2, g3, g4⟩; exact ⟨g3, g4, g1, g2⟩
      · rintro ⟨g1, g2, g3, g4⟩; exact ⟨g3, g4, g1, g2⟩)
    have c2 := cnt_wv ho hw (Q := foP S W i (sTe S i)) (show sA S ≤ sAll S by unfold sAll; omega) (fun j hj => (hE i hi j hj).2) (fun j hj => by
      unfold foP fcP
      congr 1
      simp only [decide_eq_decide]
      constructor
      · rintro ⟨g1, g2, g3, g4⟩; exact ⟨g3, g4, g1, g2⟩
      · rintro ⟨g1, g2, g3, g4⟩; exact ⟨g3, g4, g1, g2⟩)
    rw [hag] at c1
    rw [hfo] at c2
    have next : ∀ Z2, eqQ Z Z2 → mE Z2 S → mM Z2 S → ∃ Z1, f95_isUnstruck_h3 n b (i3 t) w (i3 ((i + 1 : Nat) : Int)) Z2 = some (i3 (if unF S W t f (i + 1) = true then 1 else 0), Z1) ∧ eqQ Z Z1 ∧ mE Z1 S ∧ mM Z1 S := by
      intro Z2 e hE2 hM2
      obtain ⟨Z1, r1, r2, r3, r4⟩ := e95h ho hoc hw ht f (i + 1) n Z2 (by omega) (by omega) (cBk_q ho h e) (cDr_q ho hb hd e) (cTr_of htr (eqQ_B hb e)) hE2 hM2
      exact ⟨Z1, r1, eqQ_tr e r2, r3, r4⟩
    have v0 : ag * 16 + fo < 256 := by omega
    have hx : (i3 i * (4 : Int32)) + (i3 ((ag * 16 + fo : Nat) : Int) >>> ((6 : Int32) &&& 31)) = i3 ((i * 4 + (ag * 16 + fo) / 64 : Nat) : Int) := by
      rw [key_a _ v0, show (4 : Int32) = i3 4 from rfl, i3_mul, i3_add]
      exact congrArg i3 (by omega)
    rw [f95_isUnstruck_h3, if_pos (is_b hb), hd.1, if_neg (by rw [c_ge (by omega)]; omega), e6 hb (by omega), mjBp_some]
    have l5 : f21_longAt 195 (i3 i) Z = some (Z.2.1 195 i) := e21 (n := 42) (by decide) (by decide) (by omega) (by omega)
    have l6 : f21_longAt 196 (i3 i) Z = some (Z.2.1 196 i) := e21 (n := 42) (by decide) (by decide) (by omega) (by omega)
    rw [l5, mjBp_some, e324, mjBp_some, c1, l6, mjBp_some, e324, mjBp_some, c2, show (16 : Int32) = i3 16 from rfl, i3_mul, i3_add, show (ag : Int) * 16 + fo = ((ag * 16 + fo : Nat) : Int) by omega, let_eq, hx, if_pos (is_ac hb i (by omega)), a1, unF]
    unfold f95_isUnstruck_j106 f95_isUnstruck_j107
    rw [i3_s]
    by_cases q1 : sTmA S i = t
    · rw [if_neg (by rw [c_ne (by omega)]; omega)]
      by_cases q2 : W i = true
      · have U : (if sTmA S i = t ∧ stk S W i = true then false else unF S W t f (i + 1)) = unF S W t f (i + 1) := if_neg (fun g => by rw [stk_w q2] at g; exact absurd g.2 (by decide))
        rw [U, if_pos (by rw [wv_z (by omega), hw i hi]; exact q2), if_pos (by decide)]
        exact next Z eqQ_rf hE hM
      · have q3 : W i = false := by simpa using q2
        have es := stk_u (S := S) q3
        rw [hag, hfo] at es
        have ex : (i * 4 + (ag * 16 + fo) / 64) < 168 := by omega
        have m6 : (ag * 16 + fo) % 64 < 64 := Nat.mod_lt _ (by decide)
        have hMi := hM i hi (ag * 16 + fo) v0
        rw [show (ag * 16 + fo) / 16 = ag by omega, show (ag * 16 + fo) % 16 = fo by omega, ← es] at hMi
        rw [if_neg (by rw [wv_z (by omega), hw i hi]; exact q2), if_neg (by decide), if_neg (by rw [show (0 : Int32) = i3 0 from rfl, c_lt (by omega)]; omega), show (168 : Int32) = i3 168 from rfl, if_neg (by rw [c_ge (by omega)]; omega), if_neg (by rw [c_ge (by omega)]; omega), if_pos (in_p (by omega)), ix_nat (by omega), key_b _ v0, show (1 : Int64) = i6 1 from rfl]
        generalize hX : i * 4 + (ag * 16 + fo) / 64 = X at *
        generalize hm : (ag * 16 + fo) % 64 = m at *
        have fin : ∀ Z2, eqQ Z Z2 → mE Z2 S → mM Z2 S → b6 (Z2.2.1 198 X) m = stk S W i → ∃ Z1, f95_isUnstruck_j224 (f95_isUnstruck_h3 n) b (i3 t) w (i3 i) (i3 X) (i6 1 <<< ((i3 m).toInt64 &&& 63)) Z2 = some (i3 (if (if sTmA S i = t ∧ stk S W i = true then false else unF S W t f (i + 1)) = true then 1 else 0), Z1) ∧ eqQ Z Z1 ∧ mE Z1 S ∧ mM Z1 S := by
          intro Z2 e hE2 hM2 h8
          unfold f95_isUnstruck_j224
          rw [if_pos (in_p (by omega)), ix_nat (by omega), i3_s]
          by_cases q4 : stk S W i = true
          · refine ⟨Z2, ?_, e, hE2, hM2⟩
            rw [if_neg (by rw [lg_eq, bit_z m6, h8, q4]; decide), if_pos (show sTmA S i = t ∧ stk S W i = true from ⟨q1, q4⟩)]; rfl
          · have U : (if sTmA S i = t ∧ stk S W i = true then false else unF S W t f (i + 1)) = unF S W t f (i + 1) := if_neg (fun g => q4 g.2)
            rw [U, if_pos (by rw [lg_eq, bit_z m6, h8]; simpa using q4)]
            exact next Z2 e hE2 hM2
        by_cases q4 : b6 (Z.2.1 197 X) m = true
        · rw [q4, Bool.true_and] at hMi
          rw [if_pos (by rw [lg_ne, bit_z m6, q4]; decide)]
          exact fin Z eqQ_rf hE hM hMi
        · rw [if_neg (by rw [lg_ne, bit_z m6]; exact fun g => g (by simpa using q4)), let_eq, if_pos (is_ac hb i (by omega))]
          have q5 : b6 (Z.2.1 197 X) m = false := by simpa using q4
          rw [q5, Bool.false_and] at hMi
          have e1 : eqQ Z (zSl Z 197 X (Z.2.1 197 X ||| (i6 1 <<< ((i3 m).toInt64 &&& 63)))) := eqQ_sl (by omega)
          obtain ⟨y, Z1, r1, r2, r3, r4, r5⟩ := e93 ho hoc hi tb (sz := sSz S i) (by omega) (cBk_q ho h e1) (cDr_q ho hb hd e1) (cTr_of htr (eqQ_B hb e1)) hw
          rw [sl_int, a3, a4, r1, mjBd_some]
          have hy := bt_none (R := sR S) (P := fun r => sSt S W i (sTe S i) (sSz S i) r) (by omega) r5
          have hyk : (y = i3 0) = (stk S W i = false) := by rw [hy]; unfold stk fRu; simp
          have build : ∀ z : Int64, (∀ j, j < 64 → b6 z j = (decide (j = m) && stk S W i)) → ∃ Z2, f95_isUnstruck_j222 (f95_isUnstruck_h3 n) b (i3 t) w (i3 i) (i3 X) (i6 1 <<< ((i3 m).toInt64 &&& 63)) (i3 X) (Z1.2.1 198 X) z Z1 = some (i3 (if (if sTmA S i = t ∧ stk S W i = true then false else unF S W t f (i + 1)) = true then 1 else 0), Z2) ∧ eqQ Z Z2 ∧ mE Z2 S ∧ mM Z2 S := by
            intro z hz
            have e2 : eqQ Z (zSl Z1 198 X (Z1.2.1 198 X ||| z)) := eqQ_tr e1 (eqQ_tr r2 (eqQ_sl (by omega)))
            have w7 : (zSl Z1 198 X (Z1.2.1 198 X ||| z)).2.1 197 = (zSl Z 197 X (Z.2.1 197 X ||| (i6 1 <<< ((i3 m).toInt64 &&& 63)))).2.1 197 := by rw [sl_obj _ _ _ _ (by omega), r4 197 (by omega)]
            have w8 : Z1.2.1 198 = Z.2.1 198 := by rw [r4 198 (by omega), sl_obj _ _ _ _ (by omega)]
            have hE2 : mE (zSl Z1 198 X (Z1.2.1 198 X ||| z)) S := by
              unfold mE
              rw [sl_obj _ _ _ _ (by omega), sl_obj _ _ _ _ (by omega), r4 195 (by omega), r4 196 (by omega), sl_obj _ _ _ _ (by omega), sl_obj _ _ _ _ (by omega)]
              exact hE
            have hM2 : mM (zSl Z1 198 X (Z1.2.1 198 X ||| z)) S := by
              intro a ha v hv
              rw [w7]
              have hold := hM a ha v hv
              have m7 : v % 64 < 64 := Nat.mod_lt _ (by decide)
              by_cases g1 : a * 4 + v / 64 = X
              · rw [g1] at hold ⊢
                rw [sl_same, sl_same, b6_or, b6_or, hz _ m7, b6_single (by omega) m7, w8]
                have g2 : a = i := by omega
                by_cases g3 : v % 64 = m
                · have g4 : v = ag * 16 + fo := by omega
                  subst g2
                  rw [g3, hMi, q5, g4, show (ag * 16 + fo) / 16 = ag by omega, show (ag * 16 + fo) % 16 = fo by omega, ← es]
                  simp
                · rw [decide_eq_false g3, hold]; simp
              · rw [sl_fld _ _ _ _ (by omega), sl_fld _ _ _ _ (by omega), w8]
                exact hold
            obtain ⟨Z3, s1, s2⟩ := fin _ e2 hE2 hM2 (by rw [sl_same, b6_or, hz m m6, w8, hMi]; simp)
            refine ⟨Z3, ?_, s2⟩
            unfold f95_isUnstruck_j222
            rw [if_pos (in_p (by omega)), ix_nat (by omega), let_eq]
            exact s1
          by_cases q6 : stk S W i = true
          · rw [if_neg (by rw [eq_c, hyk, q6]; decide)]
            unfold f95_isUnstruck_j201
            rw [if_pos (in_p (by omega)), if_neg (by decide), ix_nat (by omega)]
            exact build _ (fun j hj => by rw [b6_single m6 hj, q6, Bool.and_true])
          · have q7 : stk S W i = false := by simpa using q6
            rw [if_pos (by rw [eq_c, hyk]; exact q7)]
            unfold f95_isUnstruck_j201
            rw [if_pos (in_p (by omega)), if_pos (by decide), ix_nat (by omega)]
            exact build _ (fun j hj => by rw [show (0 : Int64) = i6 0 from rfl, b6_0, q7, Bool.and_false])
    · have U : (if sTmA S i = t ∧ stk S W i = true then false else unF S W t f (i + 1)) = unF S W t f (i + 1) := if_neg (fun g => q1 g.1)
      rw [U, if_pos (by rw [c_ne (by omega)]; omega), if_pos (by decide)]
      exact next Z eqQ_rf hE hM
end SY
