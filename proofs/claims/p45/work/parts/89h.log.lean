/-! THE CLASS'S LOG of appeals -/
def lgR (Z : mjZt) (N U : Nat) (E : Nat → Nat → Int) : Prop := N < 10 ∧ U ≤ 10 ∧ Z.1 209 1 = i3 N ∧ Z.1 209 2 = i3 U ∧ ∀ k, k < U → ∀ j, j < 5 → Z.1 210 (5 * ((N + 9 - k) % 10) + j) = i3 (E k j)
def eqL (Z Z2 : mjZt) : Prop := Z2.2 = Z.2 ∧ ∀ a, a ≠ 209 → a ≠ 210 → Z2.1 a = Z.1 a
def lgN (N : Nat) : Nat := if N + 1 < 10 then N + 1 else 0
def lgU (U : Nat) : Nat := if U + 1 < 10 then U + 1 else 10
def lgE (E : Nat → Nat → Int) (e : Nat → Int) (k : Nat) : Nat → Int := if k = 0 then e else E (k - 1)
section LG
variable {Z : mjZt} {b : Nat} {S : mjS}
theorem min_i3x {a : Int} (h : -2147483648 ≤ a ∧ a ≤ 2147483647) : mjMin (i3 a) (i3 10) = i3 (min a 10) := by
  unfold mjMin
  have h1 := i3_int (z := a) (by omega)
  have h2 := i3_int (z := 10) (by omega)
  by_cases q : a ≤ 10
  · rw [show min a 10 = a by omega]
    simp only [Int32.le_iff_toInt_le, Int32.lt_iff_toInt_lt, h1, h2]
    first | rw [if_pos q] | (split <;> first | rfl | (exact congrArg i3 (by omega)))
  · rw [show min a 10 = 10 by omega]
    simp only [Int32.le_iff_toInt_le, Int32.lt_iff_toInt_lt, h1, h2]
    first | rw [if_neg q] | (split <;> first | rfl | (exact congrArg i3 (by omega)))
theorem e4 {N U : Nat} {E : Nat → Nat → Int} (h : lgR Z N U E) (e : Nat → Int) : ∃ Z1, f4_keep (i3 (e 0)) (i3 (e 1)) (i3 (e 2)) (i3 (e 3)) (i3 (e 4)) Z = some ((), Z1) ∧ eqL Z Z1 ∧ lgR Z1 (lgN N) (lgU U) (lgE E e) := by
  obtain ⟨hN, hU, h1, h2, h3⟩ := h
  have W : eqL Z (zSi (zSi (zSi (zSi (zSi (zSi (zSi Z 210 (5 * N) (i3 (e 0))) 210 (5 * N + 1) (i3 (e 1))) 210 (5 * N + 2) (i3 (e 2))) 210 (5 * N + 3) (i3 (e 3))) 210 (5 * N + 4) (i3 (e 4))) 209 1 (i3 (lgN N))) 209 2 (i3 (lgU U))) := ⟨rfl, fun a g1 g2 => by rw [si_obj _ _ _ _ g1, si_obj _ _ _ _ g1, si_obj _ _ _ _ g2, si_obj _ _ _ _ g2, si_obj _ _ _ _ g2, si_obj _ _ _ _ g2, si_obj _ _ _ _ g2]⟩
  refine ⟨_, ?_, W, ?_⟩
  · unfold f4_keep f4_keep_j97
    rw [h1, show (5 : Int32) = i3 5 from rfl, i3_mul, show (0 : Int32) = i3 0 from rfl, if_neg (by rw [c_lt (by omega)]; omega), i3_add, show (50 : Int32) = i3 50 from rfl, if_neg (by rw [c_gt (by omega)]; omega), if_pos (in_p (by omega)), ix_i3 (by omega), show ((N : Int) * 5).toNat = 5 * N by omega, let_eq]
    rw [i3_s0, if_pos (in_p (by omega)), ix_i3 (by omega), show ((N : Int) * 5 + 1).toNat = 5 * N + 1 by omega, let_eq]
    rw [show (2 : Int32) = i3 2 from rfl, i3_add, if_pos (in_p (by omega)), ix_i3 (by omega), show ((N : Int) * 5 + 2).toNat = 5 * N + 2 by omega, let_eq]
    rw [show (3 : Int32) = i3 3 from rfl, i3_add, if_pos (in_p (by omega)), ix_i3 (by omega), show ((N : Int) * 5 + 3).toNat = 5 * N + 3 by omega, let_eq]
    rw [show (4 : Int32) = i3 4 from rfl, i3_add, if_pos (in_p (by omega)), ix_i3 (by omega), show ((N : Int) * 5 + 4).toNat = 5 * N + 4 by omega, let_eq]
    rw [si_obj _ _ _ _ (by omega), si_obj _ _ _ _ (by omega), si_obj _ _ _ _ (by omega), si_obj _ _ _ _ (by omega), si_obj _ _ _ _ (by omega), h1, i3_s, show (10 : Int32) = i3 10 from rfl]
    have fin : ∀ n : Nat, n = lgN N → (mjLet (zSi (zSi (zSi (zSi (zSi (zSi Z 210 (5 * N) (i3 (e 0))) 210 (5 * N + 1) (i3 (e 1))) 210 (5 * N + 2) (i3 (e 2))) 210 (5 * N + 3) (i3 (e 3))) 210 (5 * N + 4) (i3 (e 4))) 209 1 (i3 (n : Int))) fun Z114 => mjLet (zSi Z114 209 2 (mjMin (Z114.1 209 2 + 1) (i3 10))) fun Z115 => some ((), Z115)) = some ((), zSi (zSi (zSi (zSi (zSi (zSi (zSi Z 210 (5 * N) (i3 (e 0))) 210 (5 * N + 1) (i3 (e 1))) 210 (5 * N + 2) (i3 (e 2))) 210 (5 * N + 3) (i3 (e 3))) 210 (5 * N + 4) (i3 (e 4))) 209 1 (i3 (lgN N))) 209 2 (i3 (lgU U))) := by
      intro n hn
      subst hn
      rw [let_eq, let_eq, si_fld _ _ _ _ (by omega), si_obj _ _ _ _ (by omega), si_obj _ _ _ _ (by omega), si_obj _ _ _ _ (by omega), si_obj _ _ _ _ (by omega), si_obj _ _ _ _ (by omega), h2, i3_s, min_i3x (by omega), show min ((U + 1 : Nat) : Int) 10 = (lgU U : Int) by unfold lgU; split <;> omega]
    by_cases q : N + 1 < 10
    · rw [if_neg (by rw [c_ge (by omega)]; omega)]
      exact fin (N + 1) (by unfold lgN; rw [if_pos q])
    · rw [if_pos (by rw [c_ge (by omega)]; omega)]
      exact fin 0 (by unfold lgN; rw [if_neg q])
  · refine ⟨by unfold lgN; split <;> omega, by unfold lgU; split <;> omega, by rw [si_fld _ _ _ _ (by omega), si_same], si_same _ _ _ _, fun k hk j hj => ?_⟩
    rw [si_obj _ _ _ _ (by omega), si_obj _ _ _ _ (by omega)]
    have hU2 : lgU U ≤ 10 := by unfold lgU; split <;> omega
    by_cases q : k = 0
    · subst q
      have e1 : (lgN N + 9 - 0) % 10 = N := by unfold lgN; split <;> omega
      rw [e1]
      unfold lgE
      rw [if_pos rfl]
      rcases (by omega : j = 0 ∨ j = 1 ∨ j = 2 ∨ j = 3 ∨ j = 4) with rfl | rfl | rfl | rfl | rfl
      · rw [si_fld _ _ _ _ (by omega), si_fld _ _ _ _ (by omega), si_fld _ _ _ _ (by omega), si_fld _ _ _ _ (by omega), Nat.add_zero, si_same]
      · rw [si_fld _ _ _ _ (by omega), si_fld _ _ _ _ (by omega), si_fld _ _ _ _ (by omega), si_same]
      · rw [si_fld _ _ _ _ (by omega), si_fld _ _ _ _ (by omega), si_same]
      · rw [si_fld _ _ _ _ (by omega), si_same]
      · rw [si_same]
    · have e1 : (lgN N + 9 - k) % 10 = (N + 9 - (k - 1)) % 10 := by unfold lgN; split <;> omega
      have e2 : (N + 9 - (k - 1)) % 10 ≠ N := by omega
      have hk2 : k - 1 < U := by unfold lgU at hk; split at hk <;> omega
      have e3 := h3 (k - 1) hk2 j hj
      rw [e1]
      generalize (N + 9 - (k - 1)) % 10 = X at *
      unfold lgE
      rw [if_neg q, si_fld _ _ _ _ (by omega), si_fld _ _ _ _ (by omega), si_fld _ _ _ _ (by omega), si_fld _ _ _ _ (by omega), si_fld _ _ _ _ (by omega)]
      exact e3
end LG
