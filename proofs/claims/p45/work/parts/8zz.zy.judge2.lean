/-! the law's judging: the result, and who is in it-/
section JG2
variable {Z Z2 : mjZt} {b N U : Nat} {S : mjS} {E : Nat → Nat → Int}
theorem mk_end (hi : cI9 Z b S N U E) {x2 : Int32} (xin : ∀ j, j < 32 → bt x2 j = sIn S (sW S) j) : Z.1 199 5 &&& (x2 ^^^ (-1)) = i3 0 ∧ Z.1 199 7 &&& Z.1 199 5 = i3 0 ∧ Z.1 199 7 &&& ((x2 &&& Z.1 199 6) ^^^ (-1)) = i3 0 ∧ Z.1 199 8 &&& (Z.1 199 4 ^^^ (-1)) = x2 := by
  have hv := hi.2.2.2.2.1.2.2.2
  have m1 : ∀ j, j < 32 → bt (-1 : Int32) j = true := bt_m1
  have tin : ∀ j, sThr S (sW S) j = true → sIn S (sW S) j = true := fun j h => by
    unfold sThr at h
    rw [Bool.and_eq_true] at h; exact h.1
  have bin : ∀ j, sBe S (sW S) j = true → sIn S (sW S) j = true ∧ sIp S (sW S) (sAll S) j = true ∧ sThr S (sW S) j = false := fun j h => by
    unfold sBe at h
    rw [Bool.and_eq_true, Bool.and_eq_true, Bool.and_eq_true] at h
    refine ⟨h.1, h.2.1, ?_⟩
    have := h.2.2.1
    cases q : sThr S (sW S) j with
    | false => rfl
    | true => rw [q] at this; exact absurd this (by decide)
  have ein : ∀ j, sIn S (sW S) j = (sWh S j && !(sHi S (sW S) (sAll S) j)) := fun j => by
    unfold sIn sWh
    by_cases q1 : j < sT S
    · by_cases q2 : sTd S j = sLg S
      · rw [decide_eq_true q1, decide_eq_true q2, decide_eq_true (And.intro q1 q2), Bool.true_and, Bool.true_and]
      · rw [decide_eq_false q2, decide_eq_false (show ¬ (j < sT S ∧ sTd S j = sLg S) from fun g => q2 g.2), Bool.false_and, Bool.and_false]
    · rw [decide_eq_false q1, decide_eq_false (show ¬ (j < sT S ∧ sTd S j = sLg S) from fun g => q1 g.1), Bool.false_and, Bool.false_and]
  refine ⟨bt_ext (fun j hj => ?_), bt_ext (fun j hj => ?_), bt_ext (fun j hj => ?_), bt_ext (fun j hj => ?_)⟩
  · obtain ⟨v4, v5, v6, v7, v8⟩ := hv j hj
    rw [bt_and, bt_xor, v5, xin j hj, m1 j hj, bt_0]
    have := tin j
    cases q1 : sThr S (sW S) j
    · rfl
    · rw [this q1]; rfl
  · obtain ⟨v4, v5, v6, v7, v8⟩ := hv j hj
    rw [bt_and, v7, v5, bt_0]
    have := bin j
    cases q1 : sBe S (sW S) j
    · rfl
    · rw [(this q1).2.2]; rfl
  · obtain ⟨v4, v5, v6, v7, v8⟩ := hv j hj
    rw [bt_and, bt_xor, bt_and, v7, v6, xin j hj, m1 j hj, bt_0]
    have := bin j
    cases q1 : sBe S (sW S) j
    · rfl
    · rw [(this q1).1, (this q1).2.1]; rfl
  · obtain ⟨v4, v5, v6, v7, v8⟩ := hv j hj
    rw [bt_and, bt_xor, v8, v4, xin j hj, m1 j hj, ein j]
    cases sWh S j <;> cases sHi S (sW S) (sAll S) j <;> rfl
theorem eq_self (x : Int32) : mjCmp .eq x x = true := decide_eq_true rfl
theorem jg_fin {k M : Nat} {x2 : Int32} (hi : cI9 Z b S N U E) (hk9 : k ≤ 50) (q : sRe S (sW S) ((k : Nat) : Int) < 0) (hx : ∀ j, j < 32 → bt x2 j = (sIn S (sW S) j && decide (rk9 S (sW S) j < ((k : Nat) : Int)))) : ∃ Z2, eqQ Z Z2 ∧ f701_judged_h210 (M + 1) x2 (i3 (k : Nat)) Z = f701_judged_h362 mjF 0 Z2 := by
  have ho := hi.2.2.2.2.2.1
  have xin : ∀ j, j < 32 → bt x2 j = sIn S (sW S) j := fun j hj => by
    rw [hx j hj]
    cases g : sIn S (sW S) j with
    | false => rfl
    | true =>
      rw [Bool.true_and]
      refine decide_eq_true ?_
      rcases Int.lt_or_le (rk9 S (sW S) j) ((k : Nat) : Int) with g2 | g2
      · exact g2
      · obtain ⟨m, m1, m2⟩ := rk_all ho (rk9 S (sW S) j - ((k : Nat) : Int)).toNat j g ((k : Nat) : Int) (by omega) (by omega)
        exact absurd m2 (re_no q m1)
  obtain ⟨z1, z2, z3, z4⟩ := mk_end hi xin
  have w0 : f182_who 0 Z = some (Z.1 199 4) := x_who0 (k := 0) (by omega)
  have w1 : f182_who 1 Z = some (Z.1 199 5) := x_who0 (k := 1) (by omega)
  have w2 : f182_who 2 Z = some (Z.1 199 6) := x_who0 (k := 2) (by omega)
  have w3 : f182_who 3 Z = some (Z.1 199 7) := x_who0 (k := 3) (by omega)
  have w4 : f182_who 4 Z = some (Z.1 199 8) := x_who0 (k := 4) (by omega)
  have rb := re_bd S (sW S) ((k : Nat) : Int)
  refine ⟨Z, eqQ_rf, ?_⟩
  rw [f701_judged_h210, x_result hi (by omega), mjBp_some, if_pos (by rw [show (0 : Int32) = i3 0 from rfl, c_lt (by omega)]; exact q), w1, mjBp_some, z1, if_neg (by decide), w3, mjBp_some, z2, if_neg (by decide), w2, mjBp_some, z3, if_neg (by decide), w4, mjBp_some, w0, mjBp_some, z4, if_pos (eq_self x2)]
theorem jg_res : ∀ f k M (Z : mjZt) (x2 : Int32), k + f = sT S + 1 → f < M → cI9 Z b S N U E → (∀ j, j < 32 → bt x2 j = (sIn S (sW S) j && decide (rk9 S (sW S) j < ((k : Nat) : Int)))) → ∃ Z2, eqQ Z Z2 ∧ f701_judged_h210 M x2 (i3 (k : Nat)) Z = f701_judged_h362 mjF 0 Z2 := by
  intro f
  induction f with
  | zero =>
    intro k M Z x2 he hM hi hx
    obtain ⟨M, rfl⟩ : ∃ N0, M = N0 + 1 := ⟨M - 1, by omega⟩
    have ho := hi.2.2.2.2.2.1
    have o1 := ok_sc ho
    by_cases q : sRe S (sW S) ((k : Nat) : Int) < 0
    · exact jg_fin hi (by omega) q hx
    · obtain ⟨t, h1, h2, h3⟩ := re_in q
      have := rk_bd9 (S := S) (W := sW S) (t := t)
      omega
  | succ f ih =>
    intro k M Z x2 he hM hi hx
    obtain ⟨M, rfl⟩ : ∃ N0, M = N0 + 1 := ⟨M - 1, by omega⟩
    have ho := hi.2.2.2.2.2.1
    have o1 := ok_sc ho
    by_cases q : sRe S (sW S) ((k : Nat) : Int) < 0
    · exact jg_fin hi (by omega) q hx
    · obtain ⟨t, h1, h2, h3⟩ := re_in q
      obtain ⟨t1, t2, t3⟩ := in_T h2
      obtain ⟨V, eV, hV⟩ := x_stays hi t1 (k := 0) (by omega)
      obtain ⟨m, hm⟩ : ∃ m, 2 ^ sA S = m + 1 := ⟨2 ^ sA S - 1, by have := Nat.two_pow_pos (sA S); omega⟩
      have z := bSt_0 t3 m
      have hV' : f189_stays (i3 (t : Nat)) 0 Z = some (i3 0, V) := by
        rw [hm, z.1, z.2, if_neg (by omega), if_pos rfl] at hV
        exact hV
      have hiV := cI_q hi eV
      have mask : ∀ j, j < 32 → bt (x2 ||| ((1 : Int32) <<< (i3 (t : Nat) &&& 31))) j = (sIn S (sW S) j && decide (rk9 S (sW S) j < ((k + 1 : Nat) : Int))) := fun j hj => by
        rw [bt_or, hx j hj, show (1 : Int32) = i3 1 from rfl, bt_single (by omega) hj]
        by_cases e : j = t
        · rw [e, h2, h3, decide_eq_true (show t = t from rfl), Bool.or_true, Bool.true_and, decide_eq_true (show ((k : Nat) : Int) < ((k + 1 : Nat) : Int) by omega)]
        · rw [decide_eq_false e, Bool.or_false]
          cases g : sIn S (sW S) j with
          | false => rw [Bool.false_and, Bool.false_and]
          | true =>
            rw [Bool.true_and, Bool.true_and]
            have ne : rk9 S (sW S) j ≠ ((k : Nat) : Int) := fun g2 => e (rk_inj ho g h2 (by rw [g2, h3]))
            exact decide_eq_decide.mpr ⟨fun g2 => by omega, fun g2 => by omega⟩
      obtain ⟨Z2, g1, g2⟩ := ih (k + 1) M V _ (by omega) (by omega) hiV mask
      refine ⟨Z2, eqQ_tr eV g1, ?_⟩
      have st0 := st_0 t3
      have tt := x_team3 hi.1 hi.2.1 ho t1
      rw [if_pos t2] at tt
      rw [f701_judged_h210, x_result hi (by omega), mjBp_some, h1, if_neg (by rw [show (0 : Int32) = i3 0 from rfl, c_lt (by omega)]; omega), tt, mjBp_some, if_neg (by decide), x_struck2 hi t1, mjBp_some, st0, if_neg (by decide), hV', mjBd_some, if_neg (by decide), i3_s]
      by_cases k0 : k = 0
      · rw [if_pos (by rw [show (0 : Int32) = i3 0 from rfl, c_le (by omega)]; omega)]
        exact g2
      · obtain ⟨m9, p1, p2⟩ := rk_pred ho h2 (by omega)
        have re1 := re_yes ho p1
        rw [p2, h3] at re1
        obtain ⟨q1, q2, q3⟩ := in_T p1
        have b1 := tm_bd ho t1
        have b2 := tm_bd ho q1
        have le : sTm S m9 ≤ sTm S t := by
          rcases Int.lt_or_le (sTm S t) (sTm S m9) with g | g
          · have := rk_lt h2 (t := m9) (Or.inl g)
            omega
          · exact g
        have e1 : i3 ((k : Nat) : Int) - 1 = i3 (((k : Nat) : Int) - 1) := by rw [show (1 : Int32) = i3 1 from rfl, i3_sub]
        rw [if_neg (by rw [show (0 : Int32) = i3 0 from rfl, c_le (by omega)]; omega), e1, x_result hiV (by omega), mjBp_some, re1, x_team2 hiV.1 hiV.2.1 hiV.2.2.1 ho q1, mjBp_some, x_team2 hiV.1 hiV.2.1 hiV.2.2.1 ho t1, mjBp_some, if_pos (by rw [c_le (by omega)]; exact le)]
        exact g2
end JG2
