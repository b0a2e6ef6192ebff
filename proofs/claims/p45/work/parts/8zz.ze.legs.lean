/-! the legs of all teams; the kinds -/
section WLG
theorem kd_fn (j : Nat) : (if j = 4 then some 1000050 else if j = 3 then some 1000049 else if j = 2 then some 1000048 else if j = 1 then some 1000047 else if j = 0 then some 1000046 else none) = (if j < 5 then some (1000046 + j) else none : Option Nat) := by
  by_cases q4 : j = 4
  · rw [q4]; rfl
  · by_cases q3 : j = 3
    · rw [q3]; rfl
    · by_cases q2 : j = 2
      · rw [q2]; rfl
      · by_cases q1 : j = 1
        · rw [q1]; rfl
        · by_cases q0 : j = 0
          · rw [q0]; rfl
          · rw [if_neg q4, if_neg q3, if_neg q2, if_neg q1, if_neg q0, if_neg (show ¬ j < 5 by omega)]
variable {x sb L Lg : Nat} {xs : Nat → Int32} {p : Nat}
theorem w_kinds {n c : Nat} {Z : mjQ} {b : mjBb} {q : mjV} {a : mjK} (h : wI x sb L xs Lg c a n Z b q) (hm : rmW 10 Z b q) : ∃ kp r Z2 q2, (mjBq (qNewA sg0 Z 120 5) fun v258 Z260 =>
      mjBp (qSra Z260 v258 0 1000046) fun Z261 =>
      mjBp (qSra Z261 v258 1 1000047) fun Z263 =>
      mjBp (qSra Z263 v258 2 1000048) fun Z265 =>
      mjBp (qSra Z265 v258 3 1000049) fun Z267 =>
      mjBp (qSra Z267 v258 4 1000050) fun Z269 =>
      if mjRo Z269.2 x 16 = true then
      mjBq (g195_next sg0 x 5 Z269) fun v273 Z274 =>
      g197_init_h574 sg0 mjF x p sb v258 v273 Z274
      else none) = g197_init_h574 sg0 mjF x p sb kp (i3 (r : Nat)) Z2 ∧ r < 5 ∧ wX x sb L xs n 2 Z b q n Z2 b q2 [] ∧ q2.2 = q.2 ∧ kdW Z2 kp := by
  obtain ⟨kp, Z1, e1, k1, hp, -, r1⟩ := t_newA (t := 120) (w := 5) h.1 (rw_wk hm (by omega)) (by decide) (by omega)
  have hp0 : 1000 + Z.1.1 ≤ kp := by omega
  have e1' : qNewA sg0 Z 120 5 = some (kp, Z1) := e1
  have w1 := rf_Sra (j := 0) (s := 1000046) r1 (by omega) (by omega) (by omega)
  obtain ⟨T2, r2⟩ := t_wrf (j := 0) (v := some 1000046) k1 (c90 k1 hm (by omega)) r1 (by unfold kpO; omega) hp0
  have w2 := rf_Sra (j := 1) (s := 1000047) r2 (by omega) (by omega) (by omega)
  obtain ⟨T3, r3⟩ := t_wrf (j := 1) (v := some 1000047) T2 (c90 T2 hm (by omega)) r2 (by unfold kpO; omega) hp0
  have w3 := rf_Sra (j := 2) (s := 1000048) r3 (by omega) (by omega) (by omega)
  obtain ⟨T4, r4⟩ := t_wrf (j := 2) (v := some 1000048) T3 (c90 T3 hm (by omega)) r3 (by unfold kpO; omega) hp0
  have w4 := rf_Sra (j := 3) (s := 1000049) r4 (by omega) (by omega) (by omega)
  obtain ⟨T5, r5⟩ := t_wrf (j := 3) (v := some 1000049) T4 (c90 T4 hm (by omega)) r4 (by unfold kpO; omega) hp0
  have w5 := rf_Sra (j := 4) (s := 1000050) r5 (by omega) (by omega) (by omega)
  obtain ⟨T6, r6⟩ := t_wrf (j := 4) (v := some 1000050) T5 (c90 T5 hm (by omega)) r5 (by unfold kpO; omega) hp0
  obtain ⟨r, Z7, q7, hr, e7, k7, f7⟩ := t_next (k := 5) T6.1 (rw_wk (rw_tr hm T6 (N2 := 5) (by omega)) (by omega)) (by omega)
  have r7 := rf_x r6 (by unfold kpO; omega) k7
  refine ⟨kp, r, Z7, q7, ?_, hr, wX_tr T6 k7, f7, r7.1, r7.2.1, r7.2.2.1, fun j => ?_⟩
  · rw [e1', mjBq_some]
    have w1' : qSra Z1 kp 0 1000046 = _ := w1
    have w2' : qSra _ kp 1 1000047 = _ := w2
    have w3' : qSra _ kp 2 1000048 = _ := w3
    have w4' : qSra _ kp 3 1000049 = _ := w4
    have w5' : qSra _ kp 4 1000050 = _ := w5
    have e7' : g195_next sg0 x 5 _ = _ := e7
    rw [w1', mjBp_some, w2', mjBp_some, w3', mjBp_some, w4', mjBp_some, w5', mjBp_some, if_pos (wS_ro T6.1).2, e7', mjBq_some]
  · exact (r7.2.2.2 j).trans (kd_fn j)
theorem w_legs : ∀ (f k N : Nat) (n c : Nat) (Z : mjQ) (b : mjBb) (q : mjV) (a : mjK), k + f = a.1.length → f < N → a.1.length ≤ 3 → Lg ≤ 4 → (∀ j, k ≤ j → j < a.1.length → a.2.1 j = 0) → wI x sb L xs Lg c a n Z b q → rmW (260 * f + 10) Z b q → ∃ kp r Z2 b2 q2 a2 c2 u, g197_init_h360 sg0 N x p sb (i3 (k : Nat)) Z = g197_init_h574 sg0 mjF x p sb kp (i3 (r : Nat)) Z2 ∧ r < 5 ∧ wX x sb L xs n (260 * f + 10) Z b q n Z2 b2 q2 u ∧ wI x sb L xs Lg c2 a2 n Z2 b2 q2 ∧ kdW Z2 kp ∧ a2.1 = a.1 ∧ a2.2.2 = a.2.2 ∧ c2 ≤ c + 4 * f
  | 0, k, N, n, c, Z, b, q, a, hk, hN, ha, hL, hz, h, hm => by
    obtain ⟨N, rfl⟩ : ∃ N0, N = N0 + 1 := ⟨N - 1, by omega⟩
    obtain ⟨kp, r, Z2, q2, e1, e2, e3, e4, e5⟩ := w_kinds (p := p) h (rw_wk hm (by omega))
    refine ⟨kp, r, Z2, b, q2, a, c, _, ?_, e2, wX_wk e3 (by omega), wI_mv h e3.1 e4, e5, rfl, rfl, by omega⟩
    rw [g197_init_h360, if_pos (wS_ro h.1).2, w_tm h, mjBp_some, if_pos (by rw [c_ge (by omega)]; omega)]
    exact e1
  | f + 1, k, N, n, c, Z, b, q, a, hk, hN, ha, hL, hz, h, hm => by
    obtain ⟨N, rfl⟩ : ∃ N0, N = N0 + 1 := ⟨N - 1, by omega⟩
    obtain ⟨r1, Z1, q1, hr1, e1, k1, f1⟩ := t_next (k := 6) h.1 (rw_wk hm (by omega)) (by omega)
    have e1' : g195_next sg0 x 6 Z = some (i3 (r1 : Nat), Z1) := e1
    have m1 := rw_tr hm k1 (N2 := 260 * f + 260) (by omega)
    have h1 := wI_mv h k1.1 f1
    have key : ∀ (many : Nat) (Y : mjQ) (qY : mjV) (NY : Nat), many ≤ Lg → wX x sb L xs n NY Z b q n Y b qY [] → NY ≤ 5 → qY.2 = q.2 → g197_init_h360 sg0 (N + 1) x p sb (i3 (k : Nat)) Z = g197_init_j394 sg0 (g197_init_h360 sg0 N) x p sb (i3 (k : Nat)) (i3 (many : Nat)) Y → ∃ kp r Z2 b2 q2 a2 c2 u, g197_init_h360 sg0 (N + 1) x p sb (i3 (k : Nat)) Z = g197_init_h574 sg0 mjF x p sb kp (i3 (r : Nat)) Z2 ∧ r < 5 ∧ wX x sb L xs n (260 * (f + 1) + 10) Z b q n Z2 b2 q2 u ∧ wI x sb L xs Lg c2 a2 n Z2 b2 q2 ∧ kdW Z2 kp ∧ a2.1 = a.1 ∧ a2.2.2 = a.2.2 ∧ c2 ≤ c + 4 * (f + 1) := by
      intro many Y qY NY hmy TY hNY hqY eY
      have hY := wI_mv h TY.1 hqY
      have mY := rw_tr hm TY (N2 := 260 * f + 265) (by omega)
      obtain ⟨V, bV, qV, aV, uV, v1, v2, v3, v4, v5, v6⟩ := w_runs1 (p := p) (K := fun x0 x1 x2 x3 Z711 => g197_init_h360 sg0 N x0 x1 x2 (x3 + 1) Z711) (k := k) (many := many) many 0 mjF n c Y b qY a (by omega) (by unfold mjF; omega) hmy hL (by omega) ha (hz k (by omega) (by omega)) hY (rw_wk mY (by omega))
      have mV := rw_tr mY v2 (N2 := 260 * f + 10) (by omega)
      obtain ⟨kp, r, Z2, b2, q2, a2, c2, u2, w1, w2, w3, w4, w5, w6, w7, w8⟩ := w_legs f (k + 1) N n (c + many) V bV qV aV (by rw [v4]; omega) (by omega) (by rw [v4]; exact ha) hL (fun j g1 g2 => by rw [v5 j (by omega)]; exact hz j (by omega) (by rw [← v4]; exact g2)) v3 mV
      refine ⟨kp, r, Z2, b2, q2, a2, c2, _, ?_, w2, wX_wk (wX_tr TY (wX_tr v2 w3)) (by omega), w4, w5, w6.trans v4, w7.trans v6, by omega⟩
      rw [eY]
      unfold g197_init_j394
      refine Eq.trans v1 ?_
      show g197_init_h360 sg0 N x p sb (i3 (k : Nat) + 1) V = _
      rw [i3_s, w1]
    have F0 : qI Z1.2 x 16 0 = some (i3 (Lg : Nat)) := wS_F k1.1 (by omega) (by decide) (by rw [f1]; exact h.2.2.2.1.1)
    by_cases z : r1 = 0
    · obtain ⟨r2, Z2, q2, hr2, e2, k2, f2⟩ := t_next (k := Lg + 1) k1.1 (rw_wk m1 (by omega)) (by omega)
      refine key r2 Z2 q2 _ (by omega) (wX_tr k1 k2) (by omega) (by rw [f2, f1]) ?_
      have e2' : g195_next sg0 x (i3 (Lg : Nat) + 1) Z1 = some (i3 (r2 : Nat), Z2) := by rw [i3_s]; exact e2
      rw [g197_init_h360, if_pos (wS_ro h.1).2, w_tm h, mjBp_some, if_neg (by rw [c_ge (by omega)]; omega), e1', mjBq_some, if_neg (by rw [show (0 : Int32) = i3 0 from rfl, c_ne (by omega)]; omega), F0, mjBp_some, if_pos (wS_ro k1.1).2, e2', mjBq_some]
    · refine key Lg Z1 q1 _ (by omega) k1 (by omega) f1 ?_
      rw [g197_init_h360, if_pos (wS_ro h.1).2, w_tm h, mjBp_some, if_neg (by rw [c_ge (by omega)]; omega), e1', mjBq_some, if_pos (by rw [show (0 : Int32) = i3 0 from rfl, c_ne (by omega)]; omega), F0, mjBp_some]
end WLG
