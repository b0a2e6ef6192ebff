/-! the script's numbers -/
def scI (Z : mjQ) (L : Nat) (xs : Nat → Int32) : Prop := L ≤ 260 ∧ Z.2.1 2000001 0 = i3 L ∧ ∀ k, k < L → Z.2.1 2000000 k = xs k
theorem scI_frm {Z Z2 : mjQ} {L : Nat} {xs : Nat → Int32} {P : Nat → Prop} (h : scI Z L xs) (g : frm Z Z2 P) (h1 : ∀ a, 1000000 ≤ a → ¬ P a) : scI Z2 L xs := by
  obtain ⟨x1, -, -⟩ := (g.2 2000001 (Or.inr (by omega))).2 (h1 _ (by omega))
  obtain ⟨y1, -, -⟩ := (g.2 2000000 (Or.inr (by omega))).2 (h1 _ (by omega))
  exact ⟨h.1, by rw [x1]; exact h.2.1, by rw [y1]; exact h.2.2⟩
def clN (L : Nat) (xs : Nat → Int32) (k : Nat) : Int32 := if k < L then xs k else 1664525 * i3 k + 14492
theorem and_nn (v : Int32) : 0 ≤ (v &&& 2147483647).toInt := by
  have h : (v &&& 2147483647).toBitVec.msb = false := by
    show (v.toBitVec &&& (2147483647 : Int32).toBitVec).msb = false
    rw [BitVec.msb_and, show (2147483647 : Int32).toBitVec.msb = false from by decide, Bool.and_false]
  show 0 ≤ (v &&& 2147483647).toBitVec.toInt
  rw [BitVec.toInt_eq_msb_cond, h]
  simp
/-- pick -/
def pkN (L : Nat) (xs : Nat → Int32) (k n : Nat) : Nat := (clN L xs k &&& 2147483647).toInt.toNat % n
theorem pkN_lt {L : Nat} {xs : Nat → Int32} {k n : Nat} (h : 0 < n) : pkN L xs k n < n := Nat.mod_lt _ h
theorem q_cell {Z : mjQ} {L k : Nat} {xs : Nat → Int32} (h : scI Z L xs) (hk : k ≤ 100000) : g184_cell 2000000 (i3 k) Z = some (clN L xs k) := by
  obtain ⟨hL, h1, h2⟩ := h
  have e1 : qLn Z.2 2000000 = some (i3 L) := by
    unfold qLn
    rw [if_pos rfl, h1]
  unfold g184_cell clN
  rw [e1, mjBp_some]
  by_cases q : k < L
  · rw [if_neg (by rw [c_ge (by omega)]; omega), if_pos q]
    have e2 : qIa Z.2 2000000 (i3 k) = some (xs k) := by
      unfold qIa
      rw [if_pos rfl, h1, i3_int (by omega), i3_int (by omega), if_pos (by omega), ix_nat (by omega), h2 k q]
    rw [e2, mjBp_some]
  · rw [if_pos (by rw [c_ge (by omega)]; omega), if_neg q]
theorem q_pick {Z : mjQ} {L k n : Nat} {xs : Nat → Int32} (h : scI Z L xs) (hk : k ≤ 100000) (hn : 0 < n ∧ n ≤ 100000) : g185_pick 2000000 (i3 k) (i3 n) Z = some (i3 (pkN L xs k n : Nat)) := by
  unfold g185_pick
  rw [q_cell h hk, mjBp_some, if_pos (by rw [show (0 : Int32) = i3 0 from rfl, i3_inj (by omega)]; omega)]
  have h0 := and_nn (clN L xs k)
  have h1 := (clN L xs k &&& 2147483647).toInt_lt
  unfold pkN
  generalize hz : (clN L xs k &&& 2147483647).toInt = z at h0 h1 ⊢
  have e : clN L xs k &&& 2147483647 = i3 z := by rw [← hz, i3_toInt]
  rw [e, i3_div (by omega), i3_mul, i3_sub]
  congr 2
  have := Int.emod_def z n
  have h3 : ((z.toNat % n : Nat) : Int) = z % (n : Int) := by
    rw [Int.natCast_emod, Int.toNat_of_nonneg h0]
  rw [h3, this, Int.mul_comm]
