/-! CALLS: appeal, its guards -/
section AQ
variable {Z Zm : mjZt} {b : Nat} {S : mjS}
theorem q_appeal {N U : Nat} {E P : Nat → Nat → Int} (hi : iR Z Zm b S N U E P) (x y z : Int32) : ∃ v Z1 Zm1 S2 N2 U2 E2 P2, f190_appeal x y z Z = some (v, Z1) ∧ f320_appeal x y z Zm = some (v, Zm1) ∧ iR Z1 Zm1 b S2 N2 U2 E2 P2 ∧ eqY b Z Z1 ∧ eqZ Zm Zm1 := by
  have hi0 := hi
  obtain ⟨hb, h, hd, htr, hv, ho, hoc, hn, hm, hl, hp, hh⟩ := hi0
  have hb2 := b_b h
  have o1 := ok_sc ho
  have stay : ∀ w : Int32, f190_appeal x y z Z = some (w, Z) → f320_appeal x y z Zm = some (w, Zm) → ∃ v Z1 Zm1 S2 N2 U2 E2 P2, f190_appeal x y z Z = some (v, Z1) ∧ f320_appeal x y z Zm = some (v, Zm1) ∧ iR Z1 Zm1 b S2 N2 U2 E2 P2 ∧ eqY b Z Z1 ∧ eqZ Zm Zm1 := fun w g1 g2 =>
    ⟨w, Z, Zm, S, N, U, E, P, g1, g2, hi, ⟨rfl, fun _ _ _ _ _ _ _ => ⟨rfl, rfl⟩⟩, ⟨rfl, fun _ _ _ _ => rfl, fun _ _ => rfl⟩⟩
  rcases tl_cases S x with ⟨a, rfl, ha⟩ | ⟨a, rfl, ha⟩
  · obtain ⟨k, rfl, hk1, hk2⟩ := i3_ex y
    obtain ⟨v, rfl, hv1, hv2⟩ := i3_ex z
    have oa := ok_act ho ha
    by_cases q : k < 0 ∨ 1 < k
    · refine stay (i3 (-1)) ?_ ?_
      · unfold f190_appeal
        rw [hb, if_pos (is_b hb2), e18t h ho ha, mjBp_some, if_neg (by decide), show (0 : Int32) = i3 0 from rfl, show (-1 : Int32) = i3 (-1) from rfl, show (1 : Int32) = i3 1 from rfl]
        by_cases q2 : k < 0
        · rw [if_pos (by rw [c_lt (by omega)]; omega)]
        · rw [if_neg (by rw [c_lt (by omega)]; omega), if_pos (by rw [c_gt (by omega)]; omega)]
      · unfold f320_appeal
        rw [m_A hm, i3_p, i36 (by omega), i36 (by omega), show (0 : Int64) = i6 0 from rfl, m195t (by omega), mjBp_some, if_neg (by decide), i36 (by omega), show (1 : Int64) = i6 1 from rfl, m195f (by omega), mjBp_some, if_pos (by decide)]; rfl
    · obtain ⟨m, rfl⟩ : ∃ m : Nat, k = m := ⟨k.toNat, by omega⟩
      have hm2 : m < 2 := by omega
      have ob : 0 ≤ S 3 (72 + 3 * a + m) ∧ S 3 (72 + 3 * a + m) ≤ 9999 := by
        rcases (by omega : m = 0 ∨ m = 1) with rfl | rfl
        · rw [Nat.add_zero]; omega
        · omega
      have rd : Z.1 (acB b a) (3 + m) = i3 (S 3 (72 + 3 * a + m)) := by
        obtain ⟨_, _, _, g4, g5⟩ := b_ac h ha
        unfold sTe at g4
        unfold sSz at g5
        rw [if_pos ha] at g4 g5
        rcases (by omega : m = 0 ∨ m = 1) with rfl | rfl
        · exact g4
        · exact g5
      -- the class up to its guards on the number, the model up to its own
      have cl : f190_appeal (i3 a) (i3 m) (i3 v) Z = if mjCmp .ge (i3 v) 0 = true then (if mjCmp .gt (i3 v) (i3 (if m = 0 then 9999 else 99)) = true then some ((-1), Z) else if mjCmp .ne (i3 v) (i3 (S 3 (72 + 3 * a + m))) = true then f190_appeal_j92 (i3 a) (i3 m) (i3 v) (acB b a) (i3 (S 3 (72 + 3 * a + m))) (i3 m) Z else some ((-1), Z)) else some ((-1), Z) := by
        unfold f190_appeal f190_appeal_j53 f190_appeal_j68
        rw [hb, if_pos (is_b hb2), e18t h ho ha, mjBp_some, if_neg (by decide), e6 hb2 (by omega)]
        rcases (by omega : m = 0 ∨ m = 1) with rfl | rfl
        · have rd0 : Z.1 (acB b a) 3 = i3 (S 3 (72 + 3 * a + 0)) := rd
          have c0 : ¬ (mjCmp .ne (i3 ((0 : Nat) : Int)) 0 = true) := by decide
          rw [if_neg (by decide), if_neg (by decide)]
          by_cases q0 : mjCmp .ge (i3 v) 0 = true
          · rw [if_pos q0, if_pos q0, mjBp_some, if_neg c0, if_pos (is_ac hb2 a (by omega)), rd0, if_neg c0, if_neg c0]
            rfl
          · rw [if_neg q0, if_neg q0]
        · have rd0 : Z.1 (acB b a) 4 = i3 (S 3 (72 + 3 * a + 1)) := rd
          have c0 : mjCmp .ne (i3 ((1 : Nat) : Int)) 0 = true := by decide
          rw [if_neg (by decide), if_neg (by decide)]
          by_cases q0 : mjCmp .ge (i3 v) 0 = true
          · rw [if_pos q0, if_pos q0, mjBp_some, if_pos c0, if_pos (is_ac hb2 a (by omega)), rd0, if_pos c0, if_pos c0]
            rfl
          · rw [if_neg q0, if_neg q0]
      have md : f320_appeal (i3 a) (i3 m) (i3 v) Zm = f320_appeal_j42 (i3 a) (i3 m) (i3 v) (i6 v) (i6 0) (i6 (if m = 0 then 9999 else 99)) Zm := by
        unfold f320_appeal
        rw [m_A hm, i3_p, i36 (by omega), i36 (by omega), show (0 : Int64) = i6 0 from rfl, m195t (by omega), mjBp_some, if_neg (by decide), i36 (by omega), show (1 : Int64) = i6 1 from rfl, m195t (by omega), mjBp_some, if_neg (by decide), i36 (by omega)]
        rcases (by omega : m = 0 ∨ m = 1) with rfl | rfl
        · rw [if_neg (by decide)]; rfl
        · rw [if_pos (by decide)]; rfl
      have hmx : (if m = 0 then (9999 : Int) else 99) = 9999 ∨ (if m = 0 then (9999 : Int) else 99) = 99 := by split <;> omega
      by_cases q2 : 0 ≤ v ∧ v ≤ (if m = 0 then (9999 : Int) else 99)
      · by_cases q3 : v = S 3 (72 + 3 * a + m)
        · refine stay (i3 (-1)) ?_ ?_
          · rw [cl, show (0 : Int32) = i3 0 from rfl, if_pos (by rw [c_ge (by omega)]; omega), if_neg (by rw [c_gt (by omega)]; omega), if_neg (by rw [c_ne (by omega)]; omega)]; rfl
          · rw [md]
            unfold f320_appeal_j42
            rw [m195t (by omega), mjBp_some, if_pos (by decide), show (72 : Int32) = i3 72 from rfl, show (3 : Int32) = i3 3 from rfl, i3_mul, i3_add, i3_add, if_pos (in_p (by omega)), ix_i3 (by omega), show ((72 : Int) + 3 * a + m).toNat = 72 + 3 * a + m by omega, m_nw hm, if_neg (by rw [c_ne (by omega)]; omega)]; rfl
        · have q4 : m = 0 ∧ 0 ≤ v ∧ v ≤ 9999 ∨ m = 1 ∧ 0 ≤ v ∧ v ≤ 99 := by
            rcases (by omega : m = 0 ∨ m = 1) with rfl | rfl
            · rw [if_pos rfl] at q2; omega
            · rw [if_neg (by omega)] at q2; omega
          obtain ⟨Z1, Zm1, S2, N2, U2, E2, P2, r1, r2, r3⟩ := ap_go hi ha hm2 q4 q3
          refine ⟨_, Z1, Zm1, S2, N2, U2, E2, P2, ?_, by rw [md]; exact r2, r3⟩
          rw [cl, show (0 : Int32) = i3 0 from rfl, if_pos (by rw [c_ge (by omega)]; omega), if_neg (by rw [c_gt (by omega)]; omega), if_pos (by rw [c_ne (by omega)]; omega)]
          exact r1
      · refine stay (i3 (-1)) ?_ ?_
        · rw [cl, show (0 : Int32) = i3 0 from rfl]
          by_cases q3 : 0 ≤ v
          · rw [if_pos (by rw [c_ge (by omega)]; omega), if_pos (by rw [c_gt (by omega)]; omega)]; rfl
          · rw [if_neg (by rw [c_ge (by omega)]; omega)]; rfl
        · rw [md]
          unfold f320_appeal_j42
          rw [m195f (by omega), mjBp_some, if_neg (by decide)]; rfl
  · refine stay (i3 (-1)) ?_ ?_
    · unfold f190_appeal
      rw [hb, if_pos (is_b hb2), e18f h ho ha, mjBp_some, if_pos (by decide)]; rfl
    · unfold f320_appeal
      rw [m_A hm, i3_p, i36 (by omega), i36 (by omega), show (0 : Int64) = i6 0 from rfl, m195f (by omega), mjBp_some, if_pos (by decide)]; rfl
end AQ
