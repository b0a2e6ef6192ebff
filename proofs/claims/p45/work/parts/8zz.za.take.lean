/-! a rule is taken, or left out -/
section WJ
variable {x sb own L n Lg c kp : Nat} {xs : Nat → Int32} {Z Z2 : mjQ} {b bo : mjBb} {q : mjV} {a : mjK} {p : Nat}
theorem ob_k {c : Nat × Nat} {p : Nat} {f : Nat → Int32} (h : obO c Z p f) (hc : kpO c.1) (hm : Z.1.1 ≤ Z2.1.1) (k : keepO Z Z2) : obO c Z2 p f := by
  obtain ⟨h1, h2, h3, h4⟩ := h
  obtain ⟨x1, x2, x3⟩ := k p h2 (by rw [h1]; exact hc)
  exact ⟨x3.trans h1, by omega, h3, fun j => by rw [x1]; exact h4 j⟩
theorem rf_k {c : Nat × Nat} {p : Nat} {f : Nat → Option Nat} (h : rfO c Z p f) (hc : kpO c.1) (hm : Z.1.1 ≤ Z2.1.1) (k : keepO Z Z2) : rfO c Z2 p f := by
  obtain ⟨h1, h2, h3, h4⟩ := h
  obtain ⟨x1, x2, x3⟩ := k p h2 (by rw [h1]; exact hc)
  exact ⟨x3.trans h1, by omega, h3, fun j => by rw [x2]; exact h4 j⟩
def rlT (R kd : Nat) (w e : List Int32) : List Int32 := txS 1000053 ++ (chW R ++ (txS 1000042 ++ (txS (1000046 + kd) ++ (txS 1000054 ++ (w ++ e)))))
set_option maxRecDepth 4000 in
theorem w_j993 {r kd : Nat} {w e : List Int32} (h : wI x sb L xs Lg c a n Z b q) (hK : kdW Z kp) (hO : wS x own L xs n Z bo q) (ne1 : sb ≠ own) (ne2 : b.1 ≠ bo.1) (hr : Z.2.2.2.2 r = (15, 0)) (hr2 : r < 1000 + Z.1.1) (hb : b.2.2.length ≤ 661) (hc : Z.1.1 ≤ 79000) (hq : q.1 ≤ 80000) (hbo : bo.2.2.length ≤ 16000) (ht : bo.2.2 = rlT a.2.2.2.1 kd w e) (hkd : kd ≤ 4) (hw : grT (grB 2) w) (he : e = [] ∨ ∃ w2, grT (grB 2) w2 ∧ e = txS 1000055 ++ w2) (hR : a.2.2.2.1 < 2) (Rf : Nat → Nat → Nat → Nat → Int32 → mjQ → Option (Unit × mjQ)) (x4 : Int32) : ∃ Z2 b2 q2 a2 c2, g197_init_j993 sg0 Rf x p sb kp x4 r own Z = Rf x p sb kp (x4 + (-1)) Z2 ∧ wI x sb L xs Lg c2 a2 n Z2 b2 q2 ∧ kdW Z2 kp ∧ Z2.1.1 ≤ Z.1.1 + 700 ∧ Z2.1.2 ≤ Z.1.2 + 100000 ∧ q2.1 ≤ q.1 + 700 ∧ b2.2.2.length ≤ 661 ∧ a2.1 = a.1 ∧ a2.2.2.2.1 ≤ a.2.2.2.1 + 1 ∧ a2.2.2.2.2 = a.2.2.2.2 ∧ c2 ≤ c + 1 := by
  have h' := h
  obtain ⟨h1, hT, hn, ⟨hF0, hF7⟩, ⟨r8, r9, r10, r11⟩, ⟨i0, i0b⟩, ⟨i1, i1b⟩, i2, i3'⟩ := h'
  have l0 := lns_5 _ _ _ hT
  have e0 : g197_init_j993 sg0 Rf x p sb kp x4 r own Z = (if mjCmp .le (i3 (b.2.2.length : Nat) + i3 (bo.2.2.length : Nat)) 660 = true then
    mjBq (g231_append sg0 sb own Z) fun v426 Z427 =>
    if mjRo Z427.2 v426 19 = true then
    mjBq (g233_append sg0 v426 1000043 Z427) fun v430 Z431 =>
    mjBp (qR Z431.2 x 16 11) fun v432 =>
    if mjRo Z431.2 v432 20 = true then
    mjBq (g240_add sg0 v432 r Z431) fun v436 Z437 =>
    mjBp (qI Z437.2 x 16 7) fun v438 =>
    mjBp (qSi Z437 x 16 7 (v438 + 1)) fun Z440 =>
    Rf x p sb kp (x4 + (-1)) Z440
    else none
    else none
  else
    Rf x p sb kp (x4 + (-1)) Z) := by
    unfold g197_init_j993
    rw [if_pos (wS_ro h1).1, q_blen h1.1, mjBp_some, if_pos (wS_ro hO).1, q_blen hO.1, mjBp_some]
  rw [e0, i3_add]
  by_cases sm : b.2.2.length + bo.2.2.length ≤ 660
  · rw [if_pos (by rw [show (660 : Int32) = i3 660 from rfl, c_le (by omega)]; omega)]
    have m0 : rmW 700 Z b q := ⟨by omega, by omega, by omega⟩
    obtain ⟨Z1, v1, cap1, e1, r1⟩ := q_apB h1.1 hO.1 (fun w => ne1 w.symm) (fun w => ne2 w.symm) (by omega) (by omega)
    have N1 : 1 ≤ bo.2.2.length := by
      rw [ht]
      unfold rlT
      rw [List.length_append]
      have : (txS 1000053).length = 6 := by decide
      omega
    have k1 := s_ap (N := bo.2.2.length) h1 (rw_wk m0 (by omega)) N1 (Nat.le_refl _) r1
    have b1e : True := trivial
    have T1 := k1
    have m1 := rw_tr m0 T1 (N2 := 39) (by omega)
    have l1 := lw_x T1 l0
    obtain ⟨Z2, b2, e2, k2⟩ := s_apS (N := 1) (s := 1000043) T1.1 (rw_wk m1 (by omega)) (by omega) (by omega) (by decide)
    have T2 := wX_tr T1 k2
    have m2 := rw_tr m0 T2 (N2 := 38) (by omega)
    have l2 := lw_x T2 l0
    have q2e : (q.2.2.2 3).2.2.length < 10 := by rw [i3']; omega
    have hr9 : Z2.2.2.2.2 r = (15, 0) := (T2.2.2.2.2.2.2.2.2.2.2 r hr2).trans hr
    have hr8 : r < 1000 + Z2.1.1 := by have := T2.2.2.1; omega
    obtain ⟨Z3, q3, e3, k3, f3, g3, i33, j3, t3⟩ := t_add (i := 3) (e := r) T2.1 (rw_wk m2 (by omega)) (by omega) (Or.inr (Or.inl (ks_of hr9))) (Or.inl hr8) q2e
    have T3 := wX_tr T2 k3
    have m3 := rw_tr m0 T3 (N2 := 37) (by omega)
    have l3 := lw_x T3 l0
    have y5 : q3.2.1 7 + 1 = i3 ((c + 1 : Nat) : Int) := by rw [f3, hF7, i3_s]
    obtain ⟨Z4, q4, e4, k4, f4, g4, i4⟩ := t_put (f := 7) (v := q3.2.1 7 + 1) T3.1 (rw_wk m3 (by omega)) (by omega) rfl
    have T4 := wX_tr T3 k4
    have m4 := rw_tr m0 T4 (N2 := 37) (by omega)
    have l4 := lw_x T4 l0
    have tot := T4
    have tx := tot.2.1
    rw [ht] at tx
    unfold rlT at tx
    simp only [List.append_assoc, ap_nl, List.append_nil] at tx
    have lt : lnRl a (a.1, a.2.1, a.2.2.1, a.2.2.2.1 + 1, a.2.2.2.2) (txS 1000053 ++ (chW a.2.2.2.1 ++ (txS 1000042 ++ (txS (1000046 + kd) ++ (txS 1000054 ++ (w ++ (e ++ txS 1000043))))))) := ⟨kd, w, e, hkd, hw, he, hR, rfl, rfl⟩
    have z0 : ∀ j, j ≠ 3 → q4.2.2.2 j = q.2.2.2 j := fun j d1 => by rw [i4]; rw [t3 j d1]
    have z1 : ∀ j, (q4.2.2.2 j).1 = (q.2.2.2 j).1 := fun j => by rw [i4]; rw [j3]
    have lb : b2.2.2.length ≤ 661 := by
      have := T2.2.1
      rw [this, List.length_append, List.length_append]
      have : (txS 1000043).length = 1 := by decide
      omega
    have cb : b2.2.1 ≤ 40000 := T2.1.1.2.2.2.2.2.2.1
    have sl := tot.2.2.2.2.1
    refine ⟨_, b2, q4, (a.1, a.2.1, a.2.2.1, a.2.2.2.1 + 1, a.2.2.2.2), c + 1, ?_, ⟨tot.1, ⟨a, b.2.2, _, hT, Or.inr (Or.inr (Or.inr (Or.inl lt))), tx⟩, hn, ⟨?_, ?_⟩, ⟨?_, ?_, ?_, ?_⟩, ⟨?_, i0b⟩, ⟨?_, ?_⟩, ?_, ?_⟩, rf_x hK (by unfold kpO; omega) tot, by have := tot.2.2.2.1; omega, by omega, by have := tot.2.2.2.2.2.2.2.1; omega, lb, rfl, Nat.le_refl _, rfl, Nat.le_refl _⟩
    · rw [e1, mjBq_some, if_pos (wS_ro T1.1).1, e2, mjBq_some, wS_R T2.1 rfl r11, mjBp_some, if_pos (wT_ro T2.1 (i := 3) (by omega)), e3, mjBq_some, wS_F T3.1 (by omega) (by decide) rfl, mjBp_some, e4, mjBp_some]
    · rw [g4 0 (by omega), f3]; exact hF0
    · rw [f4]; exact y5
    · rw [i4, g3, j3]; exact r8
    · rw [i4, g3, j3]; exact r9
    · rw [i4, g3, j3]; exact r10
    · rw [i4, g3, j3]; exact r11
    · rw [z0 0 (by omega)]; exact i0
    · rw [z0 1 (by omega)]; exact i1
    · intro j hj
      rw [z0 1 (by omega), z1, z0 (4 + j) (by omega)]
      exact i1b j hj
    · rw [z0 2 (by omega)]; exact i2
    · rw [i4, i33, List.length_append, i3']; rfl
  · rw [if_neg (by rw [show (660 : Int32) = i3 660 from rfl, c_le (by omega)]; omega)]
    exact ⟨Z, b, q, a, c, rfl, h, hK, by omega, by omega, by omega, hb, rfl, by omega, rfl, by omega⟩
end WJ
