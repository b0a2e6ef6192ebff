/-! all teams; all legs -/
section WLP
variable {x sb L Lg : Nat} {xs : Nat → Int32} {p : Nat}
theorem t_wo {n n0 N j p : Nat} {v : Int32} {c : Nat × Nat} {f : Nat → Int32} {Z Z0 : mjQ} {b b0 : mjBb} {q q0 : mjV} {u : List Int32} (k : wX x sb L xs n0 N Z0 b0 q0 n Z b q u) (hm : Z.1.1 ≤ 90000) (h : obO c Z p f) (hc : kpO c.1) (h1 : 1000 + Z0.1.1 ≤ p) (hk : mjPutI (mjFk c.1 j) v = true) : ∃ Z2 : mjQ, qSi Z p c.1 j v = some Z2 ∧ wX x sb L xs n0 N Z0 b0 q0 n Z2 b q u ∧ obO c Z2 p (fun i => if i = j then v else f i) ∧ Z2.1 = Z.1 := by
  obtain ⟨k1, k2⟩ := t_wi (j := j) (v := v) k hm h hc h1
  exact ⟨_, ob_S h hk, k1, k2, rfl⟩
theorem w_teams : ∀ (k N : Nat) (n c : Nat) (Z : mjQ) (b : mjBb) (q : mjV) (a : mjK), k < N → a.1.length + k ≤ 3 → wI x sb L xs Lg c a n Z b q → rmW (61 * k) Z b q → (∀ j, j < a.1.length → a.2.1 j = 0) → ∃ n2 Z2 b2 q2 a2 u, g197_init_h229 sg0 N x p sb (i3 (k : Nat)) Z = g197_init_h360 sg0 mjF x p sb 0 Z2 ∧ wX x sb L xs n (61 * k) Z b q n2 Z2 b2 q2 u ∧ wI x sb L xs Lg (c + k) a2 n2 Z2 b2 q2 ∧ a2.1.length = a.1.length + k ∧ (∀ j, j < a2.1.length → a2.2.1 j = 0) ∧ a2.2.2 = a.2.2
  | 0, N, n, c, Z, b, q, a, hk, ha, h, hm, hz => by
    obtain ⟨N, rfl⟩ : ∃ N0, N = N0 + 1 := ⟨N - 1, by omega⟩
    refine ⟨n, Z, b, q, a, _, ?_, wX_rf h.1, h, rfl, hz, rfl⟩
    rw [g197_init_h229, if_pos (by rw [show (0 : Int32) = i3 0 from rfl, c_le (by omega)]; omega)]
  | k + 1, N, n, c, Z, b, q, a, hk, ha, h, hm, hz => by
    obtain ⟨N, rfl⟩ : ∃ N0, N = N0 + 1 := ⟨N - 1, by omega⟩
    obtain ⟨r, Z1, q1, hr, e1, k1, f1⟩ := t_next (k := 9) h.1 (rw_wk hm (by omega)) (by omega)
    have e1' : g195_next sg0 x 9 Z = some (i3 (r : Nat), Z1) := e1
    have h2 := wI_mv h k1.1 f1
    have m1 := rw_tr hm k1 (N2 := 61 * k + 60) (by omega)
    obtain ⟨l2, d1, d2, d3, d4⟩ := w_lane h2 (by have := m1.1; omega) (by omega) (fun x0_Z732 x1_Z732 x2_Z732 x3_Z732 x4_Z732 Z732 =>
        if mjRo Z732.2 x2_Z732 19 = true then
        mjBq (g233_append sg0 x2_Z732 1000044 Z732) fun v735 Z736 =>
        mjBp (qR Z736.2 x0_Z732 16 8) fun v737 =>
        if mjRo Z736.2 v737 20 = true then
        mjBp (g249_size v737 Z736) fun v741 =>
        if mjRo Z736.2 v735 19 = true then
        mjBq (g229_append sg0 v735 (((97 + v741).toUInt32 % 65536).toInt32) Z736) fun v745 Z746 =>
        if mjRo Z746.2 v745 19 = true then
        mjBq (g233_append sg0 v745 1000042 Z746) fun v749 Z750 =>
        if mjRo Z750.2 v749 19 = true then
        mjBq (g230_append sg0 v749 x4_Z732 Z750) fun v753 Z754 =>
        if mjRo Z754.2 v753 19 = true then
        mjBq (g233_append sg0 v753 1000043 Z754) fun v757 Z758 =>
        mjBp (qR Z758.2 x0_Z732 16 8) fun v759 =>
        mjBq (g223_valueOf sg0 x4_Z732 Z758) fun v762 Z763 =>
        if mjRo Z763.2 v759 20 = true then
        mjBq (g240_add sg0 v759 v762 Z763) fun v766 Z767 =>
        mjBp (qR Z767.2 x0_Z732 16 9) fun v768 =>
        mjBq (qNew sg0 Z767 (20, 0)) fun v770 Z772 =>
        mjBq (g239_init sg0 v770 Z772) fun _ Z775 =>
        if mjRo Z775.2 v768 20 = true then
        mjBq (g240_add sg0 v768 v770 Z775) fun v778 Z779 =>
        mjBp (qI Z779.2 x0_Z732 16 7) fun v780 =>
        mjBp (qSi Z779 x0_Z732 16 7 (v780 + 1)) fun Z782 =>
        g197_init_h229 sg0 N x0_Z732 x1_Z732 x2_Z732 (x3_Z732 + (-1)) Z782
        else none
        else none
        else none
        else none
        else none
        else none
        else none
        else none
        ) p sb (i3 ((k + 1 : Nat) : Int)) (r + 1) 19997 (by omega)
    obtain ⟨Z2, b2, q2, u, g1, g2, g3, g4⟩ := w_team (w := i3 ((k + 1 : Nat) : Int)) (p := p) (l := l2) h2 (rw_wk m1 (by omega)) (by omega) ⟨d1, d2⟩ d3 (g197_init_h229 sg0 N)
    have m2 := rw_tr m1 g2 (N2 := 61 * k) (by omega)
    have la : (a.1 ++ [l2]).length = a.1.length + 1 := by rw [List.length_append]; rfl
    obtain ⟨n3, Z3, b3, q3, a3, u3, i1, i2, i3', i4, i5, i6⟩ := w_teams k N (n + 1) (c + 1) Z2 b2 q2 _ (by omega) (by show (a.1 ++ [l2]).length + k ≤ 3; omega) g4 m2 (fun j hj => by
      show (if j = a.1.length then 0 else a.2.1 j) = 0
      have hj' : j < a.1.length + 1 := by rw [← la]; exact hj
      by_cases e : j = a.1.length
      · rw [if_pos e]
      · rw [if_neg e]; exact hz j (by omega))
    refine ⟨n3, Z3, b3, q3, a3, _, ?_, wX_wk (wX_tr k1 (wX_tr g2 i2)) (by omega), by rw [show c + (k + 1) = c + 1 + k from by omega]; exact i3', by rw [i4]; show (a.1 ++ [l2]).length + k = _; omega, i5, i6⟩
    rw [g197_init_h229, if_neg (by rw [show (0 : Int32) = i3 0 from rfl, c_le (by omega)]; omega), if_pos (wS_ro h.1).2, e1', mjBq_some, show (1 : Int32) + i3 (r : Nat) = i3 ((r + 1 : Nat) : Int) from by rw [show (1 : Int32) = i3 1 from rfl, i3_add]; congr 1; omega]
    refine d4.trans ?_
    refine Eq.trans ?_ i1
    refine Eq.trans g1 ?_
    rw [show (-1 : Int32) = i3 (-1) from rfl, i3_add, show ((k + 1 : Nat) : Int) + -1 = ((k : Nat) : Int) from by omega]
set_option maxRecDepth 4000 in
theorem w_runs1 {K : Nat → Nat → Nat → Int32 → mjQ → Option (Unit × mjQ)} {k many : Nat} : ∀ (f i N : Nat) (n c : Nat) (Z : mjQ) (b : mjBb) (q : mjV) (a : mjK), i + f = many → f < N → many ≤ Lg → Lg ≤ 4 → k < a.1.length → a.1.length ≤ 3 → a.2.1 k = i → wI x sb L xs Lg c a n Z b q → rmW (63 * f) Z b q → ∃ Z2 b2 q2 a2 u, g197_init_h399 sg0 K N x p sb (i3 (k : Nat)) (i3 (many : Nat)) (i3 (i : Nat)) Z = K x p sb (i3 (k : Nat)) Z2 ∧ wX x sb L xs n (63 * f) Z b q n Z2 b2 q2 u ∧ wI x sb L xs Lg (c + f) a2 n Z2 b2 q2 ∧ a2.1 = a.1 ∧ (∀ j, j ≠ k → a2.2.1 j = a.2.1 j) ∧ a2.2.2 = a.2.2
  | 0, i, N, n, c, Z, b, q, a, hi, hN, hL, hL4, hk, hk3, ht, h, hm => by
    obtain ⟨N, rfl⟩ : ∃ N0, N = N0 + 1 := ⟨N - 1, by omega⟩
    refine ⟨Z, b, q, a, _, ?_, wX_rf h.1, h, rfl, fun _ _ => rfl, rfl⟩
    rw [g197_init_h399, if_pos (by rw [c_ge (by omega)]; omega)]
  | f + 1, i, N, n, c, Z, b, q, a, hi, hN, hL, hL4, hk, hk3, ht, h, hm => by
    obtain ⟨N, rfl⟩ : ∃ N0, N = N0 + 1 := ⟨N - 1, by omega⟩
    have h1 := h.1
    have l0 := lns_5 _ _ _ h.2.1
    have m0 : rmW 63 Z b q := rw_wk hm (by omega)
    have T0 := wX_rf h1
    obtain ⟨p1, Z1, e1, k1, hp1, p1o, p1r⟩ := t_newA (t := 113) (w := 2) T0.1 (rw_wk m0 (by omega)) (by decide) (by omega)
    have e1 : qNewA sg0 Z 113 2 = some (p1, Z1) := e1
    have hp10 : 1000 + Z.1.1 ≤ p1 := by have := T0.2.2.1; omega
    have T1 := wX_tr T0 k1
    have m1 := rw_tr m0 T1 (N2 := 62) (by omega)
    have l1 := lw_x T1 l0
    obtain ⟨r1, Z2, q2, hr1, e2, k2, f2⟩ := t_next (k := 60) T1.1 (rw_wk m1 (by omega)) (by omega)
    have e2 : g195_next sg0 x 60 Z1 = some (i3 (r1 : Nat), Z2) := e2
    have T2 := wX_tr T1 k2
    have m2 := rw_tr m0 T2 (N2 := 61) (by omega)
    have l2 := lw_x T2 l0
    have p1ob2 := ob_x p1o (by unfold kpO; omega) k2
    have w0 := ob_Sia (j := 0) (v := i3 ((60 + r1 : Nat) : Int)) p1ob2 (by omega) (by omega)
    obtain ⟨T3, o3⟩ := t_wi (j := 0) (v := i3 ((60 + r1 : Nat) : Int)) T2 (c90 T2 m0 (by omega)) p1ob2 (by unfold kpO; omega) hp10
    have hq2 : q2.2 = q.2 := f2
    have F0 : qI (mjSi Z2.2 p1 0 (i3 ((60 + r1 : Nat) : Int))) x 16 0 = some (i3 (Lg : Nat)) := wS_F T3.1 (by omega) (by decide) (by rw [hq2]; exact h.2.2.2.1.1)
    have code : ∀ (Z9 : mjQ) (q9 : mjV) (m : Int) (N9 : Nat) (fO : Nat → Int32) (X : Option (Unit × mjQ)), -20 ≤ m → m ≤ 20 → (a.2.1 k + 1 = Lg → m = 0) → wX x sb L xs n N9 Z b q n Z9 b q9 [] → N9 ≤ 3 → q9.2 = q.2 → obO (113, 2) Z9 p1 fO → fO 0 = i3 ((60 + r1 : Nat) : Int) → fO 1 = i3 m → (∀ R : mjQ → Option (Unit × mjQ), R = (fun Z660 => g197_init_h399 sg0 K N x p sb (i3 (k : Nat)) (i3 (many : Nat)) (i3 (i : Nat) + 1) Z660) → X = (if mjRo Z9.2 sb 19 = true then
        mjBq (g233_append sg0 sb 1000045 Z9) fun v617 Z618 =>
        if mjRo Z618.2 v617 19 = true then
        mjBq (g229_append sg0 v617 (((97 + i3 (k : Nat)).toUInt32 % 65536).toInt32) Z618) fun v621 Z622 =>
        if mjRo Z622.2 v621 19 = true then
        mjBq (g233_append sg0 v621 1000042 Z622) fun v625 Z626 =>
        mjBp (qIa Z626.2 p1 0) fun v627 =>
        if mjRo Z626.2 v625 19 = true then
        mjBq (g230_append sg0 v625 v627 Z626) fun v631 Z632 =>
        if mjRo Z632.2 v631 19 = true then
        mjBq (g233_append sg0 v631 1000042 Z632) fun v635 Z636 =>
        mjBp (qIa Z636.2 p1 1) fun v637 =>
        if mjRo Z636.2 v635 19 = true then
        mjBq (g230_append sg0 v635 v637 Z636) fun v641 Z642 =>
        if mjRo Z642.2 v641 19 = true then
        mjBq (g233_append sg0 v641 1000043 Z642) fun v645 Z646 =>
        mjBp (qR Z646.2 x 16 9) fun v647 =>
        if mjRo Z646.2 v647 20 = true then
        mjBp (g244_get v647 (i3 (k : Nat)) Z646) fun v651 =>
        if mjKs Z646.2 v651 20 = true then
        if mjRo Z646.2 v651 20 = true then
        mjBq (g240_add sg0 v651 p1 Z646) fun v656 Z657 =>
        mjBp (qI Z657.2 x 16 7) fun v658 =>
        mjBp (qSi Z657 x 16 7 (v658 + 1)) fun Z660 =>
        R Z660
        else none
        else none
        else none
        else none
        else none
        else none
        else none
        else none
        else none
        else none)) → ∃ Z2 b2 q2 a2 u, X = K x p sb (i3 (k : Nat)) Z2 ∧ wX x sb L xs n (63 * (f + 1)) Z b q n Z2 b2 q2 u ∧ wI x sb L xs Lg (c + (f + 1)) a2 n Z2 b2 q2 ∧ a2.1 = a.1 ∧ (∀ j, j ≠ k → a2.2.1 j = a.2.1 j) ∧ a2.2.2 = a.2.2 := by
      intro Z9 q9 m N9 fO X g1 g2 g3 T9 gN gq go g4 g5 hX
      have h9 := wI_mv h T9.1 gq
      have m9 := rw_tr hm T9 (N2 := 63 * f + 60) (by omega)
      obtain ⟨Y, bY, qY, uY, y1, y2, y3⟩ := w_run (te := 60 + r1) (m := m) h9 (rw_wk m9 (by omega)) hk hk3 (by omega) hL4 (by omega) ⟨g1, g2⟩ g3 go g4 g5 (fun Z660 => g197_init_h399 sg0 K N x p sb (i3 (k : Nat)) (i3 (many : Nat)) (i3 (i : Nat) + 1) Z660)
      obtain ⟨V, bV, qV, aV, uV, v1, v2, v3, v4, v5, v6⟩ := w_runs1 f (i + 1) N n (c + 1) Y bY qY (a.1, (fun j => if j = k then a.2.1 k + 1 else a.2.1 j), a.2.2) (by omega) (by omega) hL hL4 hk hk3 (by show (if k = k then a.2.1 k + 1 else a.2.1 k) = i + 1; rw [if_pos rfl, ht]) y3 (rw_tr m9 y2 (by omega))
      refine ⟨V, bV, qV, aV, _, ?_, wX_wk (wX_tr T9 (wX_tr y2 v2)) (by omega), by rw [show c + (f + 1) = c + 1 + f from by omega]; exact v3, v4, fun j hj => (v5 j hj).trans (if_neg hj), v6⟩
      rw [hX _ rfl, y1]
      show g197_init_h399 sg0 K N x p sb (i3 (k : Nat)) (i3 (many : Nat)) (i3 (i : Nat) + 1) Y = _
      rw [i3_s, v1]
    rw [g197_init_h399, if_neg (by rw [c_ge (by omega)]; omega), show (2 : Int32) = i3 ((2 : Nat) : Int) from rfl]
    have e1' : qNewA sg0 Z 113 (i3 ((2 : Nat) : Int)) = some (p1, Z1) := e1
    rw [e1', mjBq_some, if_pos (wS_ro T1.1).2, e2, mjBq_some, show (60 : Int32) + i3 (r1 : Nat) = i3 ((60 + r1 : Nat) : Int) from by rw [show (60 : Int32) = i3 60 from rfl, i3_add]; congr 1, show (0 : Int32) = i3 ((0 : Nat) : Int) from rfl, w0, mjBp_some]
    by_cases last : i + 1 = Lg
    · obtain ⟨T4, o4⟩ := t_wi (j := 1) (v := i3 0) T3 (c90 T3 m0 (by omega)) o3 (by unfold kpO; omega) hp10
      have w1 := ob_Sia (j := 1) (v := i3 0) o3 (by omega) (by omega)
      refine code _ q2 0 2 _ _ (by omega) (by omega) (fun _ => rfl) T4 (by omega) hq2 o4 rfl rfl (fun R hR => ?_)
      rw [hR]
      show (mjBp (qI (mjSi Z2.2 p1 0 (i3 ((60 + r1 : Nat) : Int))) x 16 0) fun v606 => _) = _
      rw [F0, mjBp_some, if_neg (by rw [show (1 : Int32) = i3 1 from rfl, i3_sub, c_ne (by omega)]; omega), show (1 : Int32) = i3 ((1 : Nat) : Int) from rfl]
      have w1' : qSia (Z2.1, mjSi Z2.2 p1 0 (i3 ((60 + r1 : Nat) : Int))) p1 (i3 ((1 : Nat) : Int)) (i3 ((0 : Nat) : Int)) = _ := w1
      rw [w1', mjBp_some]
      rfl
    · obtain ⟨r2, Z5, q5, hr2, e5, k5, f5⟩ := t_next (k := 41) T3.1 (rw_wk (rw_tr m0 T3 (N2 := 61) (by omega)) (by omega)) (by omega)
      have T5 := wX_tr T3 k5
      have o5 := ob_x o3 (by unfold kpO; omega) k5
      obtain ⟨T6, o6⟩ := t_wi (j := 1) (v := i3 ((r2 : Int) - 20)) T5 (c90 T5 m0 (by omega)) o5 (by unfold kpO; omega) hp10
      have w1 := ob_Sia (j := 1) (v := i3 ((r2 : Int) - 20)) o5 (by omega) (by omega)
      refine code _ q5 ((r2 : Int) - 20) 3 _ _ (by omega) (by omega) (fun _ => by omega) T6 (by omega) (by rw [f5]; exact hq2) o6 rfl rfl (fun R hR => ?_)
      rw [hR]
      show (mjBp (qI (mjSi Z2.2 p1 0 (i3 ((60 + r1 : Nat) : Int))) x 16 0) fun v606 => _) = _
      rw [F0, mjBp_some, if_pos (by rw [show (1 : Int32) = i3 1 from rfl, i3_sub, c_ne (by omega)]; omega), if_pos (wS_ro T3.1).2]
      have e5' : g195_next sg0 x 41 (Z2.1, mjSi Z2.2 p1 0 (i3 ((60 + r1 : Nat) : Int))) = some (i3 (r2 : Nat), Z5) := e5
      rw [e5', mjBq_some, show (20 : Int32) = i3 20 from rfl, i3_sub, show (1 : Int32) = i3 ((1 : Nat) : Int) from rfl, w1, mjBp_some]
      rfl
end WLP
