/-! all rules; through, within; the text is done -/
theorem w_d1 {k : Nat} (h : k < 10) : (decZ ((k : Nat) : Int)).length ≤ 1 := by
  rw [dec_pos]
  unfold decN
  rw [if_pos h]
  exact Nat.le_refl _
theorem w_d2 {k : Nat} (h : k < 60) : (decZ ((k : Nat) : Int)).length ≤ 2 := by
  rw [dec_pos]
  unfold decN
  by_cases q : k < 10
  · rw [if_pos q]; exact Nat.le_succ 1
  · rw [if_neg q, if_pos (by omega)]; exact Nat.le_refl _
section WFN
variable {x sb L n Lg c kp : Nat} {xs : Nat → Int32} {Z Z2 : mjQ} {b b2 bo : mjBb} {q q2 : mjV} {a : mjK}
theorem w_rules : ∀ (k N : Nat) (c : Nat) (Z : mjQ) (b : mjBb) (q : mjV) (a : mjK), k < N → k ≤ 2 → a.2.2.2.1 + k ≤ 2 → wI x sb L xs Lg c a n Z b q → kdW Z kp → b.2.2.length ≤ 661 → Z.1.1 ≤ 50000 - 20000 * k + 0 → Z.1.1 + 20000 * k ≤ 50000 → q.1 + 20000 * k ≤ 50000 → ∃ N2 Z2 b2 q2 a2 c2, g197_init_h820 sg0 N x 2000000 sb kp (i3 (k : Nat)) Z = g197_init_h820 sg0 (N2 + 1) x 2000000 sb kp (i3 ((0 : Nat) : Int)) Z2 ∧ wI x sb L xs Lg c2 a2 n Z2 b2 q2 ∧ b2.2.2.length ≤ 661 ∧ Z2.1.1 ≤ 70000 ∧ Z2.1.2 ≤ Z.1.2 + 1000000 * k ∧ q2.1 ≤ 70000 ∧ a2.1 = a.1 ∧ a2.2.2.2.2 = a.2.2.2.2 ∧ c2 ≤ c + k
  | 0, N, c, Z, b, q, a, hk, hk2, hR, h, hK, hb, hc0, hc, hq => by
    obtain ⟨N, rfl⟩ : ∃ N0, N = N0 + 1 := ⟨N - 1, by omega⟩
    exact ⟨N, Z, b, q, a, c, rfl, h, hb, by omega, by omega, by omega, rfl, rfl, by omega⟩
  | k + 1, N, c, Z, b, q, a, hk, hk2, hR, h, hK, hb, hc0, hc, hq => by
    obtain ⟨N, rfl⟩ : ∃ N0, N = N0 + 1 := ⟨N - 1, by omega⟩
    obtain ⟨Z2, b2, q2, a2, c2, e1, e2, e3, e4, e5, e6, e7, e8, e9, e10, e11⟩ := w_rule (k := k) (N := N) h hK (by omega) hR hb (by omega) (by omega)
    obtain ⟨N3, Z3, b3, q3, a3, c3, f1, f2, f3, f4, f5, f6, f7, f8, f9⟩ := w_rules k N c2 Z2 b2 q2 a2 (by omega) (by omega) (by omega) e2 e3 e7 (by omega) (by omega) (by omega)
    exact ⟨N3, Z3, b3, q3, a3, c3, e1.trans f1, f2, f3, f4, by omega, f6, f7.trans e8, f8.trans e10, by omega⟩
/-- a line more, that changes no list -/
theorem w_line {a2 : mjK} {u : List Int32} (h : wI x sb L xs Lg c a n Z b q) (hS : wS x sb L xs n Z2 b2 q2) (hu : b2.2.2 = b.2.2 ++ u) (hl : lnW Lg a a2 u) (h7 : q2.2.1 7 = i3 ((c + 1 : Nat) : Int)) (h0 : q2.2.1 0 = q.2.1 0) (hr : q2.2.2 = q.2.2) (ha : a2.1 = a.1 ∧ a2.2.1 = a.2.1 ∧ a2.2.2.1 = a.2.2.1 ∧ a2.2.2.2.1 = a.2.2.2.1) : wI x sb L xs Lg (c + 1) a2 n Z2 b2 q2 := by
  obtain ⟨h1, hT, hn, ⟨hF0, hF7⟩, hR, hI0, hI1, i2, i3'⟩ := h
  obtain ⟨a1, a2', a3, a4⟩ := ha
  refine ⟨hS, ⟨a, b.2.2, u, hT, hl, hu⟩, by rw [a1]; exact hn, ⟨by rw [h0]; exact hF0, h7⟩, by rw [hr]; exact hR, by rw [hr, a1]; exact hI0, by rw [hr, a1, a2']; exact hI1, by rw [hr, a3]; exact i2, by rw [hr, a4]; exact i3'⟩
/-- what is left when the World is made -/
def wF (x L : Nat) (xs : Nat → Int32) (Lg : Nat) (Z : mjQ) (t : List Int32) (c : Nat) (T : Nat) : Prop := ∃ n q s r a, wA x L xs n Z q ∧ 4 ≤ n ∧ q.2.2.1 13 = some s ∧ sS Z s r t ∧ q.2.1 7 = i3 (c : Nat) ∧ q.2.2.1 8 = some (q.2.2.2 0).1 ∧ (q.2.2.2 0).2.2.length = T ∧ lnsW Lg c a t ∧ a.1.length = T
theorem w_str (h : wI x sb L xs Lg c a n Z b q) (hm : Z.1.1 ≤ 79000) : ∃ v Z2 Z3, g235_toString sg0 sb Z = some (v, Z2) ∧ qSr Z2 x 16 13 (some v) = some Z3 ∧ wF x L xs Lg Z3 b.2.2 c a.1.length ∧ Z3.1 = (Z.1.1 + 2, Z.1.2 + 4 + b.2.2.length) := by
  obtain ⟨h1, hT, hn, ⟨hF0, hF7⟩, hR, hI0, hI1, i2, i3'⟩ := h
  obtain ⟨Z2, e1, e2, e3, e4⟩ := q_toS h1.1 (by omega)
  have hA2 := wA_frm h1.2 (by omega) e3 (fun y e => e.elim)
  have c2 : Z2.1.1 = Z.1.1 + 2 := by rw [e4]
  obtain ⟨Z3, f1, f2, f3, f4⟩ := w_putR (f := 13) (b := 1000 + Z.1.1) hA2 (by omega) (by omega) rfl
  have hx := h1.2.1.1
  have d1 : ¬ (1000 + Z.1.1) = x := fun e => by
    have := e2.1
    rw [e, hA2.1.1] at this
    exact absurd (congrArg Prod.fst this) (by simp)
  have d2 : ¬ (1000 + Z.1.1 + 1) = x := fun e => by
    have := e2.2.2.2.1
    rw [e, hA2.1.1] at this
    exact absurd (congrArg Prod.fst this) (by simp)
  exact ⟨_, Z2, Z3, e1, f1, ⟨n, _, 1000 + Z.1.1, 1000 + Z.1.1 + 1, a, f2, by omega, (by show (if (13 : Nat) = 13 then some (1000 + Z.1.1) else q.2.2.1 13) = _; rw [if_pos rfl]), sS_frm e2 f3 d1 d2, hF7, (by show (if (8 : Nat) = 13 then some (1000 + Z.1.1) else q.2.2.1 8) = some (q.2.2.2 0).1; rw [if_neg (by decide)]; exact hR.1), by show (q.2.2.2 0).2.2.length = _; rw [hI0.1, List.length_map], hT, rfl⟩, by rw [f4, e4]⟩
set_option maxRecDepth 4000 in
theorem w_wi (h : wI x sb L xs Lg c a n Z b q) (hb : b.2.2.length ≤ 690) (hc : Z.1.1 ≤ 75000) (hq : q.1 ≤ 75000) (hw : a.2.2.2.2.2 = false) : ∃ Z2 t c2, g197_init_j1100 sg0 x sb Z = some ((), Z2) ∧ wF x L xs Lg Z2 t c2 a.1.length ∧ t.length ≤ b.2.2.length + 10 ∧ Z2.1.1 ≤ Z.1.1 + 30 ∧ Z2.1.2 ≤ Z.1.2 + 82000 ∧ c2 ≤ c + 1 := by
  have h1 := h.1
  have l0 := lns_5 _ _ _ h.2.1
  have m0 : rmW 30 Z b q := ⟨by omega, by omega, by omega⟩
  have T0 := wX_rf h1
  obtain ⟨r1, Z1, q1, hr1, e1, k1, f1⟩ := t_next (k := 2) T0.1 (rw_wk m0 (by omega)) (by omega)
  have e1 : g195_next sg0 x 2 Z = some (i3 (r1 : Nat), Z1) := e1
  have T1 := wX_tr T0 k1
  have m1 := rw_tr m0 T1 (N2 := 29) (by omega)
  have l1 := lw_x T1 l0
  have h2 := wI_mv h T1.1 f1
  have sl1 := T1.2.2.2.2.1
  have cl1 := T1.2.2.2.1
  have cb := T1.1.1.2.2.2.2.2.2.1
  unfold g197_init_j1100
  rw [if_pos (wS_ro h1).2, e1, mjBq_some]
  by_cases z : r1 = 0
  · rw [if_neg (by rw [show (0 : Int32) = i3 0 from rfl, c_ne (by omega)]; omega)]
    obtain ⟨r2, Z2, q2, hr2, e2, k2, f2⟩ := t_next (k := 60) T1.1 (rw_wk m1 (by omega)) (by omega)
    have e2 : g195_next sg0 x 60 Z1 = some (i3 (r2 : Nat), Z2) := e2
    have T2 := wX_tr T1 k2
    have m2 := rw_tr m0 T2 (N2 := 28) (by omega)
    have l2 := lw_x T2 l0
    obtain ⟨Z3, q3, e3, k3, f3, g3, i33⟩ := t_put (f := 6) (v := i3 (r2 : Nat)) T2.1 (rw_wk m2 (by omega)) (by omega) rfl
    have T3 := wX_tr T2 k3
    have m3 := rw_tr m0 T3 (N2 := 28) (by omega)
    have l3 := lw_x T3 l0
    obtain ⟨Z4, b4, e4, k4⟩ := s_apS (N := 7) (s := 1000057) T3.1 (rw_wk m3 (by omega)) (by omega) (by omega) (by decide)
    have T4 := wX_tr T3 k4
    have m4 := rw_tr m0 T4 (N2 := 21) (by omega)
    have l4 := lw_x T4 l0
    have u4 : qI Z4.2 x 16 6 = some (i3 (r2 : Nat)) := wS_F T4.1 (by omega) (by decide) f3
    obtain ⟨Z5, b5, e5, k5⟩ := s_apI (N := 2) (z := ((r2 : Nat) : Int)) T4.1 (rw_wk m4 (by omega)) (by omega) l4 (by omega) (w_d2 hr2)
    have T5 := wX_tr T4 k5
    have m5 := rw_tr m0 T5 (N2 := 19) (by omega)
    have l5 := lw_x T5 l0
    obtain ⟨Z6, b6, e6, k6⟩ := s_apS (N := 1) (s := 1000043) T5.1 (rw_wk m5 (by omega)) (by omega) (by omega) (by decide)
    have T6 := wX_tr T5 k6
    have m6 := rw_tr m0 T6 (N2 := 18) (by omega)
    have l6 := lw_x T6 l0
    have y7 : q3.2.1 7 + 1 = i3 ((c + 1 : Nat) : Int) := by rw [g3 7 (by omega), f2, f1, h.2.2.2.1.2, i3_s]
    obtain ⟨Z7, q7, e7, k7, f7, g7, i7⟩ := t_put (f := 7) (v := q3.2.1 7 + 1) T6.1 (rw_wk m6 (by omega)) (by omega) rfl
    have T7 := wX_tr T6 k7
    have m7 := rw_tr m0 T7 (N2 := 18) (by omega)
    have l7 := lw_x T7 l0
    have tx := T7.2.1
    simp only [List.append_assoc, ap_nl, List.append_nil] at tx
    have sl7 := T7.2.2.2.2.1
    have cl7 := T7.2.2.2.1
    have ln7 := T7.2.2.2.2.2.2.1
    have cb7 : b6.2.1 ≤ 40000 := T7.1.1.2.2.2.2.2.2.1
    have hI7 := w_line (a2 := (a.1, a.2.1, a.2.2.1, a.2.2.2.1, a.2.2.2.2.1, true)) h T7.1 tx (Or.inr (Or.inr (Or.inr (Or.inr (Or.inr ⟨r2, by omega, hw, rfl, rfl⟩))))) (by rw [f7]; exact y7) (by rw [g7 0 (by omega), g3 0 (by omega), f2, f1]) (by rw [i7, i33, f2, f1]) ⟨rfl, rfl, rfl, rfl⟩
    obtain ⟨v, Y2, Y3, j1, j2, j3, j4⟩ := w_str hI7 (by omega)
    have lt : b6.2.2.length ≤ b.2.2.length + 10 := by
      rw [tx, List.length_append, List.length_append, List.length_append]
      have := w_d2 hr2
      have e57 : (txS 1000057).length = 7 := by decide
      have e43 : (txS 1000043).length = 1 := by decide
      omega
    refine ⟨Y3, b6.2.2, c + 1, ?_, j3, lt, by rw [j4]; show Z7.1.1 + 2 ≤ _; omega, by rw [j4]; show Z7.1.2 + 4 + b6.2.2.length ≤ _; omega, by omega⟩
    rw [if_pos (wS_ro T1.1).2, e2, mjBq_some, e3, mjBp_some, if_pos (wS_ro T3.1).1, e4, mjBq_some, u4, mjBp_some, if_pos (wS_ro T4.1).1, e5, mjBq_some, if_pos (wS_ro T5.1).1, e6, mjBq_some, wS_F T6.1 (by omega) (by decide) rfl, mjBp_some, e7, mjBp_some, if_pos (wS_ro T7.1).1, j1, mjBq_some, j2, mjBp_some]
  · rw [if_pos (by rw [show (0 : Int32) = i3 0 from rfl, c_ne (by omega)]; omega)]
    obtain ⟨v, Y2, Y3, j1, j2, j3, j4⟩ := w_str h2 (by omega)
    refine ⟨Y3, b.2.2, c, ?_, j3, by omega, by rw [j4]; show Z1.1.1 + 2 ≤ _; omega, by rw [j4]; show Z1.1.2 + 4 + b.2.2.length ≤ _; omega, by omega⟩
    rw [if_pos (wS_ro T1.1).1, j1, mjBq_some, j2, mjBp_some]
set_option maxRecDepth 4000 in
theorem w_th {N : Nat} (h : wI x sb L xs Lg c a n Z b q) (hb : b.2.2.length ≤ 661) (hc : Z.1.1 ≤ 74000) (hq : q.1 ≤ 74000) (hw : a.2.2.2.2 = (false, false)) : ∃ Z2 t c2, g197_init_h820 sg0 (N + 1) x 2000000 sb kp (i3 ((0 : Nat) : Int)) Z = some ((), Z2) ∧ wF x L xs Lg Z2 t c2 a.1.length ∧ t.length ≤ 681 ∧ Z2.1.1 ≤ Z.1.1 + 60 ∧ Z2.1.2 ≤ Z.1.2 + 170000 ∧ c2 ≤ c + 2 := by
  have h1 := h.1
  have l0 := lns_5 _ _ _ h.2.1
  have m0 : rmW 30 Z b q := ⟨by omega, by omega, by omega⟩
  have T0 := wX_rf h1
  obtain ⟨r1, Z1, q1, hr1, e1, k1, f1⟩ := t_next (k := 2) T0.1 (rw_wk m0 (by omega)) (by omega)
  have e1 : g195_next sg0 x 2 Z = some (i3 (r1 : Nat), Z1) := e1
  have T1 := wX_tr T0 k1
  have m1 := rw_tr m0 T1 (N2 := 29) (by omega)
  have l1 := lw_x T1 l0
  have h2 := wI_mv h T1.1 f1
  have sl1 := T1.2.2.2.2.1
  have cl1 := T1.2.2.2.1
  have ql1 := T1.2.2.2.2.2.2.2.1
  have cb := T1.1.1.2.2.2.2.2.2.1
  rw [g197_init_h820, if_pos (by rw [show (0 : Int32) = i3 0 from rfl, c_le (by omega)]; omega), if_pos (wS_ro h1).2, e1, mjBq_some]
  by_cases z : r1 = 0
  · rw [if_neg (by rw [show (0 : Int32) = i3 0 from rfl, c_ne (by omega)]; omega)]
    obtain ⟨r2, Z2, q2, hr2, e2, k2, f2⟩ := t_next (k := 3) T1.1 (rw_wk m1 (by omega)) (by omega)
    have e2 : g195_next sg0 x 3 Z1 = some (i3 (r2 : Nat), Z2) := e2
    have T2 := wX_tr T1 k2
    have m2 := rw_tr m0 T2 (N2 := 28) (by omega)
    have l2 := lw_x T2 l0
    obtain ⟨Z3, q3, e3, k3, f3, g3, i33⟩ := t_put (f := 5) (v := i3 ((r2 + 1 : Nat) : Int)) T2.1 (rw_wk m2 (by omega)) (by omega) rfl
    have T3 := wX_tr T2 k3
    have m3 := rw_tr m0 T3 (N2 := 28) (by omega)
    have l3 := lw_x T3 l0
    obtain ⟨Z4, b4, e4, k4⟩ := s_apS (N := 8) (s := 1000056) T3.1 (rw_wk m3 (by omega)) (by omega) (by omega) (by decide)
    have T4 := wX_tr T3 k4
    have m4 := rw_tr m0 T4 (N2 := 20) (by omega)
    have l4 := lw_x T4 l0
    have u4 : qI Z4.2 x 16 5 = some (i3 ((r2 + 1 : Nat) : Int)) := wS_F T4.1 (by omega) (by decide) f3
    have v3 : (1 : Int32) + i3 (r2 : Nat) = i3 ((r2 + 1 : Nat) : Int) := by rw [show (1 : Int32) = i3 1 from rfl, i3_add]; congr 1; omega
    obtain ⟨Z5, b5, e5, k5⟩ := s_apI (N := 1) (z := ((r2 + 1 : Nat) : Int)) T4.1 (rw_wk m4 (by omega)) (by omega) l4 (by omega) (w_d1 (by omega))
    have T5 := wX_tr T4 k5
    have m5 := rw_tr m0 T5 (N2 := 19) (by omega)
    have l5 := lw_x T5 l0
    obtain ⟨Z6, b6, e6, k6⟩ := s_apS (N := 1) (s := 1000043) T5.1 (rw_wk m5 (by omega)) (by omega) (by omega) (by decide)
    have T6 := wX_tr T5 k6
    have m6 := rw_tr m0 T6 (N2 := 18) (by omega)
    have l6 := lw_x T6 l0
    have y7 : q3.2.1 7 + 1 = i3 ((c + 1 : Nat) : Int) := by rw [g3 7 (by omega), f2, f1, h.2.2.2.1.2, i3_s]
    obtain ⟨Z7, q7, e7, k7, f7, g7, i7⟩ := t_put (f := 7) (v := q3.2.1 7 + 1) T6.1 (rw_wk m6 (by omega)) (by omega) rfl
    have T7 := wX_tr T6 k7
    have m7 := rw_tr m0 T7 (N2 := 18) (by omega)
    have l7 := lw_x T7 l0
    have tx := T7.2.1
    simp only [List.append_assoc, ap_nl, List.append_nil] at tx
    have sl7 := T7.2.2.2.2.1
    have cl7 := T7.2.2.2.1
    have ql7 := T7.2.2.2.2.2.2.2.1
    have cb7 : b6.2.1 ≤ 40000 := T7.1.1.2.2.2.2.2.2.1
    have hI7 := w_line (a2 := (a.1, a.2.1, a.2.2.1, a.2.2.2.1, true, a.2.2.2.2.2)) h T7.1 tx (Or.inr (Or.inr (Or.inr (Or.inr (Or.inl ⟨r2 + 1, by omega, by omega, by rw [hw], rfl, rfl⟩))))) (by rw [f7]; exact y7) (by rw [g7 0 (by omega), g3 0 (by omega), f2, f1]) (by rw [i7, i33, f2, f1]) ⟨rfl, rfl, rfl, rfl⟩
    have lt : b6.2.2.length ≤ b.2.2.length + 10 := by
      rw [tx, List.length_append, List.length_append, List.length_append]
      have := w_d1 (show r2 + 1 < 10 by omega)
      have e57 : (txS 1000056).length = 8 := by decide
      have e43 : (txS 1000043).length = 1 := by decide
      omega
    obtain ⟨Y, t, c2, j1, j2, j3, j4, j5, j6⟩ := w_wi hI7 (by omega) (by omega) (by omega) (by show a.2.2.2.2.2 = false; rw [hw])
    refine ⟨Y, t, c2, ?_, j2, by omega, by omega, by omega, by omega⟩
    rw [if_pos (wS_ro T1.1).2, e2, mjBq_some, v3, e3, mjBp_some, if_pos (wS_ro T3.1).1, e4, mjBq_some, u4, mjBp_some, if_pos (wS_ro T4.1).1, e5, mjBq_some, if_pos (wS_ro T5.1).1, e6, mjBq_some, wS_F T6.1 (by omega) (by decide) rfl, mjBp_some, e7, mjBp_some]
    exact j1
  · rw [if_pos (by rw [show (0 : Int32) = i3 0 from rfl, c_ne (by omega)]; omega)]
    obtain ⟨Y, t, c2, j1, j2, j3, j4, j5, j6⟩ := w_wi h2 (by omega) (by omega) (by omega) (by rw [hw])
    exact ⟨Y, t, c2, j1, j2, by omega, by omega, by omega, by omega⟩
end WFN
