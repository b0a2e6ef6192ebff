/-! a character of a made string-/
theorem chr_ok : ∀ c : Nat, c < 128 → (((i3 (c : Int)) &&& 255).toUInt32 % 65536).toInt32 = i3 (c : Int) ∧ (i3 (c : Int)).toUInt32.toUInt16.toUInt32.toInt32 = i3 (c : Int) := by decide +kernel
section CH9
variable {M : mjMem} {Z : mjQ} {s a i n c : Nat} {u : List Int32}
theorem qBa_of (h : M.2.2.2 a = (118, n)) (ha : a < 1000000) (hi : i < n) (hn : n ≤ 100000) : qBa M a (i3 (i : Nat)) = some (M.1 a i) := by
  have h3 : ¬ mjSbd a = true := by simp [mjSbd]; omega
  have e : mjAl M a = n := by
    unfold mjAl
    rw [h]
    first | done | rfl
  unfold qBa
  rw [if_neg h3, e, if_pos ⟨Or.inr (ks_of h), of_eq_true (in_t (by omega))⟩, ix_nat (by omega)]
theorem q_mlat (h : sS Z s a u) : g173_isLatin1 s Z = some 1 := by
  unfold g173_isLatin1
  rw [if_neg (by decide), qI_of (x := i3 0) h.1 (by decide) h.2.2.1, mjBp_some, if_neg (by decide)]
theorem q_chk (hi : i < n) (hn : n ≤ 100000) : g175_checkIndex (i3 (i : Nat)) (i3 (n : Nat)) Z = some () := by
  have e : ∀ o : Option Nat, g176_checkIndex (i3 (i : Nat)) (i3 (n : Nat)) o Z = some (i3 (i : Nat)) := fun o => by
    unfold g176_checkIndex
    rw [if_neg (by rw [show (0 : Int32) = i3 0 from rfl, c_lt (by omega)]; omega), if_pos (by rw [c_lt (by omega)]; omega)]
  unfold g175_checkIndex
  by_cases q : Z.2.1 2000001 1 = 0
  · rw [if_pos q, e, mjBp_some]
  · rw [if_neg q, e, mjBp_some]
theorem q_chr (h : sS Z s a u) (hn : Z.1.1 < 900000) (hi : i < u.length) (hc : c < 128) (hx : u.getD i 0 = i3 (c : Nat)) : g172_charAt s (i3 (i : Nat)) Z = some (i3 (c : Nat)) := by
  have ha := h.2.2.2.2.2.2.2.2
  have hl := h.2.2.2.2.1
  have hk := h.2.2.2.1
  have hv : Z.2.1 a i = i3 (c : Nat) := (h.2.2.2.2.2.1 i hi).trans hx
  obtain ⟨g1, g2⟩ := chr_ok c hc
  have r : g174_charAt a (i3 (i : Nat)) Z = some (i3 (c : Nat)) := by
    unfold g174_charAt
    rw [qLn_of hk (by omega) (by omega), mjBp_some, q_chk hi (by omega), mjBp_some, qBa_of hk (by omega) hi (by omega), mjBp_some, hv, g1, if_pos g2]
  unfold g172_charAt
  rw [if_pos (ro_of h.1), q_mlat h, mjBp_some, if_neg (by decide), qR_of h.1 rfl h.2.1, mjBp_some, r, mjBp_some, if_pos g2]
end CH9
