/-! all acts; all teams' legs, and the kinds -/
section WL2
variable {x sb L Lg : Nat} {xs : Nat → Int32} {p : Nat}
theorem w_tm2 {n c : Nat} {Z : mjQ} {b : mjBb} {q q2 : mjV} {a : mjK} (h : wI x sb L xs Lg c a n Z b q) {Z2 : mjQ} (h2 : wS x sb L xs n Z2 b q2) (e : q2.2 = q.2) : g196_teams x Z2 = some (i3 (a.1.length : Nat)) := w_tm (wI_mv h h2 e)
theorem w_acts {kp : Nat} : ∀ (k N : Nat) (n c : Nat) (Z : mjQ) (b : mjBb) (q : mjV) (a : mjK), k < N → a.2.2.1 + k ≤ 8 → 1 ≤ a.1.length → a.1.length ≤ 3 → wI x sb L xs Lg c a n Z b q → kdW Z kp → rmW (70 * k + 1) Z b q → ∃ r Z2 b2 q2 a2 u, g197_init_h574 sg0 N x p sb kp (i3 (k : Nat)) Z = g197_init_h820 sg0 mjF x p sb kp (i3 (r : Nat)) Z2 ∧ r < 3 ∧ wX x sb L xs n (70 * k + 1) Z b q n Z2 b2 q2 u ∧ wI x sb L xs Lg (c + k) a2 n Z2 b2 q2 ∧ kdW Z2 kp ∧ a2.1 = a.1 ∧ a2.2.1 = a.2.1 ∧ a2.2.2.2 = a.2.2.2
  | 0, N, n, c, Z, b, q, a, hk, ha, ht, ht3, h, hK, hm => by
    obtain ⟨N, rfl⟩ : ∃ N0, N = N0 + 1 := ⟨N - 1, by omega⟩
    obtain ⟨r, Z1, q1, hr, e1, k1, f1⟩ := t_next (k := 3) h.1 (rw_wk hm (by omega)) (by omega)
    refine ⟨r, Z1, b, q1, a, _, ?_, hr, k1, wI_mv h k1.1 f1, rf_x hK (by unfold kpO; omega) k1, rfl, rfl, rfl⟩
    have e1' : g195_next sg0 x 3 Z = some (i3 (r : Nat), Z1) := e1
    rw [g197_init_h574, if_pos (by rw [show (0 : Int32) = i3 0 from rfl, c_le (by omega)]; omega), if_pos (wS_ro h.1).2, e1', mjBq_some]
  | k + 1, N, n, c, Z, b, q, a, hk, ha, ht, ht3, h, hK, hm => by
    obtain ⟨N, rfl⟩ : ∃ N0, N = N0 + 1 := ⟨N - 1, by omega⟩
    have T0 := wX_rf h.1
    obtain ⟨pa, Z1, e1, k1, hpa, o1, -⟩ := t_new (c := (12, 0)) h.1 (rw_wk hm (by omega)) (by decide)
    have hp0 : 1000 + Z.1.1 ≤ pa := by omega
    obtain ⟨Z2, e2, T2, o2, -⟩ := t_wo (j := 2) (v := -1) k1 (c90 k1 hm (by omega)) o1 (by unfold kpO; omega) hp0 rfl
    have tm2 := w_tm2 h T2.1 rfl
    have go : ∀ (v Zx : mjQ) (kd : Nat) (qx : mjV), True := fun _ _ _ _ => trivial
    have ini : g182_init sg0 pa Z1 = some ((), Z2) := by
      unfold g182_init
      have e2' : qSi Z1 pa 12 2 (-1) = some Z2 := e2
      rw [e2', mjBp_some]
    -- the kind, whichever way it is drawn
    have kind : ∃ (kd : Nat) (Z3 : mjQ) (q3 : mjV), g197_init_h574 sg0 (N + 1) x p sb kp (i3 ((k + 1 : Nat) : Int)) Z = g197_init_j611 sg0 (g197_init_h574 sg0 N) x p sb kp (i3 ((k + 1 : Nat) : Int)) pa pa (i3 (kd : Nat)) Z3 ∧ kd ≤ 3 ∧ (kd = 3 → 2 ≤ a.1.length) ∧ wX x sb L xs n 2 Z b q n Z3 b q3 [] ∧ q3.2 = q.2 ∧ obO (12, 0) Z3 pa (fun i => if i = 2 then (-1) else 0) := by
      have e0 : g197_init_h574 sg0 (N + 1) x p sb kp (i3 ((k + 1 : Nat) : Int)) Z = (if mjCmp .le (i3 (a.1.length : Nat)) 1 = true then mjBq (g195_next sg0 x 3 Z2) fun v474 Z475 => g197_init_j611 sg0 (g197_init_h574 sg0 N) x p sb kp (i3 ((k + 1 : Nat) : Int)) pa pa v474 Z475 else mjBq (g195_next sg0 x 4 Z2) fun v588 Z589 => g197_init_j611 sg0 (g197_init_h574 sg0 N) x p sb kp (i3 ((k + 1 : Nat) : Int)) pa pa v588 Z589) := by
        rw [g197_init_h574, if_neg (by rw [show (0 : Int32) = i3 0 from rfl, c_le (by omega)]; omega), e1, mjBq_some, ini, mjBq_some, if_pos (wS_ro T2.1).2, tm2, mjBp_some]
      rw [e0]
      by_cases t1 : a.1.length ≤ 1
      · obtain ⟨kd, Z3, q3, hkd, e3, k3, f3⟩ := t_next (k := 3) T2.1 (rw_wk (rw_tr hm T2 (N2 := 1) (by omega)) (by omega)) (by omega)
        have e3' : g195_next sg0 x 3 Z2 = some (i3 (kd : Nat), Z3) := e3
        refine ⟨kd, Z3, q3, ?_, by omega, fun e => by omega, wX_tr T2 k3, f3, ob_x o2 (by unfold kpO; omega) k3⟩
        rw [if_pos (by rw [show (1 : Int32) = i3 1 from rfl, c_le (by omega)]; omega), e3', mjBq_some]
      · obtain ⟨kd, Z3, q3, hkd, e3, k3, f3⟩ := t_next (k := 4) T2.1 (rw_wk (rw_tr hm T2 (N2 := 1) (by omega)) (by omega)) (by omega)
        have e3' : g195_next sg0 x 4 Z2 = some (i3 (kd : Nat), Z3) := e3
        refine ⟨kd, Z3, q3, ?_, by omega, fun e => by omega, wX_tr T2 k3, f3, ob_x o2 (by unfold kpO; omega) k3⟩
        rw [if_neg (by rw [show (1 : Int32) = i3 1 from rfl, c_le (by omega)]; omega), e3', mjBq_some]
    obtain ⟨kd, Z3, q3, e3, hkd, hk3, T3, f3, o3⟩ := kind
    obtain ⟨Z4, e4, T4, o4, -⟩ := t_wo (j := 0) (v := i3 (kd : Nat)) T3 (c90 T3 hm (by omega)) o3 (by unfold kpO; omega) hp0 rfl
    have tm4 := w_tm2 h T4.1 f3
    obtain ⟨tm, Z5, q5, htm, e5, k5, f5⟩ := t_next (k := a.1.length) T4.1 (rw_wk (rw_tr hm T4 (N2 := 1) (by omega)) (by omega)) (by omega)
    have T5 := wX_tr T4 k5
    have o5 := ob_x o4 (by unfold kpO; omega) k5
    obtain ⟨Z6, e6, T6, o6, -⟩ := t_wo (j := 1) (v := i3 (tm : Nat)) T5 (c90 T5 hm (by omega)) o5 (by unfold kpO; omega) hp0 rfl
    have e4' : qSi Z3 pa 12 0 (i3 (kd : Nat)) = some Z4 := e4
    have e6' : qSi Z5 pa 12 1 (i3 (tm : Nat)) = some Z6 := e6
    have u6 : qI Z6.2 pa 12 0 = some (i3 (kd : Nat)) := ob_I o6 (by decide) rfl
    have fin : ∀ (ot : Int) (Zo : mjQ) (qo : mjV) (No : Nat), wX x sb L xs n No Z b q n Zo b qo [] → No ≤ 10 → qo.2 = q.2 → obO (12, 0) Zo pa (fun i => if i = 1 then i3 (tm : Nat) else if i = 0 then i3 (kd : Nat) else if i = 2 then -1 else 0) → ((kd = 3 ∧ 0 ≤ ot ∧ ot < a.1.length ∧ ot ≠ tm) ∨ (kd ≠ 3 ∧ ot = -1)) → g197_init_h574 sg0 (N + 1) x p sb kp (i3 ((k + 1 : Nat) : Int)) Z = g197_init_j665 sg0 (g197_init_h574 sg0 N) x p sb kp (i3 ((k + 1 : Nat) : Int)) pa pa (i3 ot) Zo → ∃ r Z2 b2 q2 a2 u, g197_init_h574 sg0 (N + 1) x p sb kp (i3 ((k + 1 : Nat) : Int)) Z = g197_init_h820 sg0 mjF x p sb kp (i3 (r : Nat)) Z2 ∧ r < 3 ∧ wX x sb L xs n (70 * (k + 1) + 1) Z b q n Z2 b2 q2 u ∧ wI x sb L xs Lg (c + (k + 1)) a2 n Z2 b2 q2 ∧ kdW Z2 kp ∧ a2.1 = a.1 ∧ a2.2.1 = a.2.1 ∧ a2.2.2.2 = a.2.2.2 := by
      intro ot Zo qo No To hNo hqo oo hot eo
      obtain ⟨Y, bY, qY, uY, y1, y2, y3⟩ := w_act (p := p) (te0 := 0) (w := i3 ((k + 1 : Nat) : Int)) (ot := ot) h (rw_wk hm (by omega)) hK To hNo hqo oo hp0 hkd rfl rfl htm ht3 hot (by omega) (g197_init_h574 sg0 N)
      have KY : kdW Y kp := rf_x hK (by unfold kpO; omega) y2
      obtain ⟨r, V, bV, qV, aV, uV, v1, v2, v3, v4, v5, v6, v7, v8⟩ := w_acts k N n (c + 1) Y bY qY (a.1, a.2.1, a.2.2.1 + 1, a.2.2.2) (by omega) (by show a.2.2.1 + 1 + k ≤ 8; omega) ht ht3 y3 KY (rw_tr hm y2 (by omega))
      refine ⟨r, V, bV, qV, aV, _, ?_, v2, wX_wk (wX_tr y2 v3) (by omega), by rw [show c + (k + 1) = c + 1 + k from by omega]; exact v4, v5, v6, v7, v8⟩
      rw [eo, y1, show (-1 : Int32) = i3 (-1) from rfl, i3_add, show ((k + 1 : Nat) : Int) + -1 = ((k : Nat) : Int) from by omega, v1]
    by_cases e9 : kd = 3
    · have tm6 := w_tm2 h T6.1 (by rw [f5]; exact f3)
      obtain ⟨r7, Z7, q7, hr7, e7, k7, f7⟩ := t_next (k := a.1.length - 1) T6.1 (rw_wk (rw_tr hm T6 (N2 := 1) (by omega)) (by omega)) (by have := hk3 e9; omega)
      have T7 := wX_tr T6 k7
      have tm7 := w_tm2 h T7.1 (by rw [f7, f5]; exact f3)
      have two := hk3 e9
      refine fin (((tm + 1 + r7) % a.1.length : Nat) : Int) Z7 q7 _ T7 (by omega) (by rw [f7, f5]; exact f3) (ob_x o6 (by unfold kpO; omega) k7) (Or.inl ⟨e9, by omega, ?_, ?_⟩) ?_
      · have := Nat.mod_lt (tm + 1 + r7) (show 0 < a.1.length by omega)
        omega
      · intro w
        have w2 : (tm + 1 + r7) % a.1.length = tm := by omega
        rcases (by omega : tm + 1 + r7 < a.1.length ∨ a.1.length ≤ tm + 1 + r7) with g | g
        · rw [Nat.mod_eq_of_lt g] at w2; omega
        · rw [Nat.mod_eq_sub_mod g, Nat.mod_eq_of_lt (by omega)] at w2; omega
      · rw [e3]
        unfold g197_init_j611
        rw [e4', mjBp_some, if_pos (wS_ro T4.1).2, tm4, mjBp_some, e5, mjBq_some, e6', mjBp_some, u6, mjBp_some, if_neg (by rw [show (3 : Int32) = i3 3 from rfl, c_ne (by omega)]; omega)]
        have u7 : qI Z6.2 pa 12 1 = some (i3 (tm : Nat)) := ob_I o6 (by decide) rfl
        have e7' : g195_next sg0 x (i3 (a.1.length : Nat) - 1) Z6 = some (i3 (r7 : Nat), Z7) := by
          rw [show (1 : Int32) = i3 1 from rfl, i3_sub, show ((a.1.length : Nat) : Int) - 1 = ((a.1.length - 1 : Nat) : Int) from by omega]
          exact e7
        rw [u7, mjBp_some, if_pos (wS_ro T6.1).2, tm6, mjBp_some, e7', mjBq_some, if_pos (wS_ro T7.1).2, tm7, mjBp_some, if_pos (by rw [show (0 : Int32) = i3 0 from rfl, i3_inj (by omega)]; omega), show (1 : Int32) = i3 1 from rfl, i3_add, i3_add, i3_div (by omega), i3_mul, i3_sub]
        congr 2
        have hd := Nat.div_add_mod (tm + 1 + r7) a.1.length
        have hd2 : ((tm : Int) + 1 + r7) = ((tm + 1 + r7 : Nat) : Int) := by omega
        rw [hd2, ← Int.natCast_ediv, ← Int.natCast_mul, Nat.mul_comm]
        omega
    · refine fin (-1) Z6 q5 _ T6 (by omega) (by rw [f5]; exact f3) o6 (Or.inr ⟨e9, rfl⟩) ?_
      rw [e3]
      unfold g197_init_j611
      rw [e4', mjBp_some, if_pos (wS_ro T4.1).2, tm4, mjBp_some, e5, mjBq_some, e6', mjBp_some, u6, mjBp_some, if_pos (by rw [show (3 : Int32) = i3 3 from rfl, c_ne (by omega)]; omega)]
      rfl
end WL2
