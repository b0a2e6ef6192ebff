/-! the law's end-/
section EN9
variable {sg : Nat → Nat} {W : mjWt} {Zc Y : mjZt} {n : Nat × Nat} {v w b N U : Nat} {S S0 : mjS} {E : Nat → Nat → Int}
theorem lw_undo (hW : mjWok W) : ∀ U M (Zc : mjZt) (N : Nat) (S : mjS) (E : Nat → Nat → Int), U < M → U ≤ 10 → cI9 Zc b S N U E → hS9 U S E S0 → ∃ (Y : mjZt) (N2 : Nat) (E2 : Nat → Nat → Int), fr9 Zc Y ∧ cI9 Y b S0 N2 0 E2 ∧ g256_law_h281 sg M 0 v (i3 (U : Nat) - 1) (n, mjVw W Zc) = mjBq (g199_all sg 0 (n, mjVw W Y)) (fun v143 Z144 => g256_law_h312 sg mjF 0 v v143 0 Z144)
  | 0, M, Zc, N, S, E, hM, h10, hi, hh => by
    obtain ⟨M, rfl⟩ : ∃ N0, M = N0 + 1 := ⟨M - 1, by omega⟩
    have e : S = S0 := hh
    refine ⟨Zc, N, E, fr9_rf, by rw [← e]; exact hi, ?_⟩
    rw [g256_law_h281, if_pos (by decide)]
  | U + 1, M, Zc, N, S, E, hM, h10, hi, hh => by
    obtain ⟨M, rfl⟩ : ∃ N0, M = N0 + 1 := ⟨M - 1, by omega⟩
    obtain ⟨hv, hh2⟩ := hh
    obtain ⟨Y, N1, u1, u2, u3⟩ := y_undo (cI_hid hi) hv
    have hb2 := b_b hi.2.1
    obtain ⟨Y2, N2, E2, r1, r2, r3⟩ := lw_undo hW U M Y N1 _ _ (by omega) (by omega) u2 hh2
    have e1 : i3 ((U + 1 : Nat) : Int) - 1 = i3 (U : Nat) := by
      rw [show (1 : Int32) = i3 1 from rfl, i3_sub]
      congr 1
      omega
    have e2 : i3 (U : Nat) + (-1) = i3 (U : Nat) - 1 := by
      rw [show (-1 : Int32) = i3 (-1) from rfl, i3_add, show (1 : Int32) = i3 1 from rfl, i3_sub]
      congr 1
    have cc : qCl (fun Zc => f193_undo Zc) (n, mjVw W Zc) = some (i3 (U : Nat), (n, mjVw W Y)) := cl_vw hW u1
    refine ⟨Y2, N2, E2, fr9_tr fr_hid (fr9_tr (fr9_Y hb2 u3) r1), r2, ?_⟩
    rw [g256_law_h281, e1, if_neg (by rw [show (0 : Int32) = i3 0 from rfl, c_lt (by omega)]; omega), if_pos rfl, if_pos ro_0, cc, mjBq_some, if_pos (eq_self _), e2]
    exact r3
theorem x_len (hw : 251 ≤ w ∧ w < 1000000) (hk : W.2 w = (113, 54)) : qLn (mjVw W Y) w = some (i3 54) := by
  have kk := (vw_k (W := W) (Zc := Y) hw.1).1
  have s1 : ¬ mjSbd w = true := by simp [mjSbd]; omega
  have s2 : mjSrd w = none := by unfold mjSrd; rw [if_neg (by omega), if_neg (by omega), if_neg (by omega)]
  unfold qLn
  rw [if_neg (by omega), if_neg s1, s2]
  dsimp only
  rw [kk, hk, if_pos (by decide)]
  unfold mjAl
  rw [kk, hk]
  rfl
theorem lw_cmp (hW : mjWok W) (hi : cI9 Y b S N 0 E) (hv : 251 ≤ v ∧ v < 1000000) (hw : 251 ≤ w ∧ w < 1000000) (kv : W.2 v = (113, 54)) (kw : W.2 w = (113, 54)) (he : ∀ k, k < 54 → Y.1 w k = Y.1 v k) : ∀ f k M, k + f = 54 → f < M → g256_law_h312 sg M 0 v w (i3 (k : Nat)) (n, mjVw W Y) = some (1, (n, mjVw W Y))
  | 0, k, M, hk, hM => by
    obtain ⟨M, rfl⟩ : ∃ N0, M = N0 + 1 := ⟨M - 1, by omega⟩
    have hi' := cI_hid hi
    have c1 : qCl (fun Zc => f193_undo Zc) (n, mjVw W Y) = some (-1, (n, mjVw W Y)) := by
      have := cl_vw (n := n) hW (y_undo0 hi')
      rw [vw_hid] at this; exact this
    have c2 : qCl (fun Zc => f192_measure 0 7 50 0 Zc) (n, mjVw W Y) = some (-1, (n, mjVw W Y)) := by
      have := cl_vw (n := n) hW (f := fun Zc => f192_measure 0 7 50 0 Zc) (y_measure7 hi' 50 0)
      rw [vw_hid] at this; exact this
    have c3 : qCl (fun Zc => f190_appeal 0 0 10000 Zc) (n, mjVw W Y) = some (-1, (n, mjVw W Y)) := by
      have a : f190_appeal 0 0 10000 (hid9 Y) = some (-1, hid9 Y) := by
        rcases y_appeal hi' (a := 0) (m := 0) (v := 10000) (by omega) (by omega) (by omega) with g | ⟨g1, g2, g3⟩
        · exact g
        · have := g2 rfl
          omega
      have := cl_vw (n := n) hW (f := fun Zc => f190_appeal 0 0 10000 Zc) a
      rw [vw_hid] at this; exact this
    rw [g256_law_h312]
    show (mjBp (qLn (mjVw W Y) w) fun v145 => _) = _
    rw [x_len hw kw, mjBp_some, if_pos (by rw [c_ge (by omega)]; omega), if_pos rfl, if_pos ro_0, c1, mjBq_some, if_neg (by decide), if_pos ro_0, c2, mjBq_some, if_neg (by decide), if_pos ro_0, c3, mjBq_some, if_neg (by decide)]
  | f + 1, k, M, hk, hM => by
    obtain ⟨M, rfl⟩ : ∃ N0, M = N0 + 1 := ⟨M - 1, by omega⟩
    have ih := lw_cmp hW hi hv hw kv kw he f (k + 1) M (by omega) (by omega)
    have a1 := r_ia (Zc := Y) (i := k) hw.1 (by omega) kw (by omega) (by omega)
    have a2 := r_ia (Zc := Y) (i := k) hv.1 (by omega) kv (by omega) (by omega)
    rw [g256_law_h312]
    show (mjBp (qLn (mjVw W Y) w) fun v145 => _) = _
    rw [x_len hw kw, mjBp_some, if_neg (by rw [c_ge (by omega)]; omega)]
    show (mjBp (qIa (mjVw W Y) w (i3 (k : Nat))) fun v164 => mjBp (qIa (mjVw W Y) v (i3 (k : Nat))) fun v166 => _) = _
    rw [a1, mjBp_some, a2, mjBp_some, he k (by omega), if_pos (eq_self _), i3_s]
    exact ih
end EN9
