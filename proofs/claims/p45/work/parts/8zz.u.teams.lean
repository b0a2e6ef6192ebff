/-! the teams' lines -/
section WTM
variable {x sb L n N Lg c : Nat} {xs : Nat → Int32} {Z Z2 : mjQ} {b b2 : mjBb} {q q2 : mjV} {a : mjK} {t u : List Int32}
theorem wI_mv {n : Nat} (h : wI x sb L xs Lg c a n Z b q) {Z2 : mjQ} {q2 : mjV} (h2 : wS x sb L xs n Z2 b q2) (e : q2.2 = q.2) : wI x sb L xs Lg c a n Z2 b q2 := by
  obtain ⟨h1, h3⟩ := h
  exact ⟨h2, by rw [e]; exact h3⟩
set_option maxRecDepth 4000 in
theorem w_team {l : Nat} {w : Int32} {p : Nat} (h : wI x sb L xs Lg c a n Z b q) (hm : rmW 60 Z b q) (ha : a.1.length < 3) (hl : 1 ≤ l ∧ l ≤ 9) (hf : ∀ j, j < a.1.length → a.1.getD j 0 ≠ l) (R : Nat → Nat → Nat → Int32 → mjQ → Option (Unit × mjQ)) : ∃ Z2 b2 q2 u, 
    (if mjRo Z.2 sb 19 = true then
        mjBq (g233_append sg0 sb 1000044 Z) fun v735 Z736 =>
        mjBp (qR Z736.2 x 16 8) fun v737 =>
        if mjRo Z736.2 v737 20 = true then
        mjBp (g249_size v737 Z736) fun v741 =>
        if mjRo Z736.2 v735 19 = true then
        mjBq (g229_append sg0 v735 (((97 + v741).toUInt32 % 65536).toInt32) Z736) fun v745 Z746 =>
        if mjRo Z746.2 v745 19 = true then
        mjBq (g233_append sg0 v745 1000042 Z746) fun v749 Z750 =>
        if mjRo Z750.2 v749 19 = true then
        mjBq (g230_append sg0 v749 (i3 (l : Nat)) Z750) fun v753 Z754 =>
        if mjRo Z754.2 v753 19 = true then
        mjBq (g233_append sg0 v753 1000043 Z754) fun v757 Z758 =>
        mjBp (qR Z758.2 x 16 8) fun v759 =>
        mjBq (g223_valueOf sg0 (i3 (l : Nat)) Z758) fun v762 Z763 =>
        if mjRo Z763.2 v759 20 = true then
        mjBq (g240_add sg0 v759 v762 Z763) fun v766 Z767 =>
        mjBp (qR Z767.2 x 16 9) fun v768 =>
        mjBq (qNew sg0 Z767 (20, 0)) fun v770 Z772 =>
        mjBq (g239_init sg0 v770 Z772) fun _ Z775 =>
        if mjRo Z775.2 v768 20 = true then
        mjBq (g240_add sg0 v768 v770 Z775) fun v778 Z779 =>
        mjBp (qI Z779.2 x 16 7) fun v780 =>
        mjBp (qSi Z779 x 16 7 (v780 + 1)) fun Z782 =>
        R x p sb (w + (-1)) Z782
        else none
        else none
        else none
        else none
        else none
        else none
        else none
        else none) = R x p sb (w + (-1)) Z2 ∧ wX x sb L xs n 60 Z b q (n + 1) Z2 b2 q2 u ∧ lnTm a (a.1 ++ [l], (fun j => if j = a.1.length then 0 else a.2.1 j), a.2.2) u ∧ wI x sb L xs Lg (c + 1) (a.1 ++ [l], (fun j => if j = a.1.length then 0 else a.2.1 j), a.2.2) (n + 1) Z2 b2 q2 := by
  have h' := h
  obtain ⟨h1, hT, hn, ⟨hF0, hF7⟩, ⟨r8, r9, r10, r11⟩, ⟨i0, i0b⟩, ⟨i1, i1b⟩, i2, i3'⟩ := h'
  have l0 := lns_5 _ _ _ hT
  have m0 := hm
  obtain ⟨Z1, b1, e1, k1⟩ := s_apS (N := 6) (s := 1000044) h1 (rw_wk m0 (by omega)) (by omega) (by omega) (by decide)
  have m1 := rw_tr m0 k1 (N2 := 54) (by omega)
  have l1 := lw_x k1 l0
  obtain ⟨Z2, b2, e2, k2⟩ := s_apC (N := 1) (c := 97 + a.1.length) k1.1 (rw_wk m1 (by omega)) (by omega) (by omega)
  have m2 := rw_tr m1 k2 (N2 := 53) (by omega)
  have l2 := lw_x k2 l1
  obtain ⟨Z3, b3, e3, k3⟩ := s_apS (N := 1) (s := 1000042) k2.1 (rw_wk m2 (by omega)) (by omega) (by omega) (by decide)
  have m3 := rw_tr m2 k3 (N2 := 52) (by omega)
  have l3 := lw_x k3 l2
  obtain ⟨Z4, b4, e4, k4⟩ := s_apI (N := 4) (z := ((l : Nat) : Int)) k3.1 (rw_wk m3 (by omega)) (by omega) l3 (by omega) (dZ_len (by omega))
  have m4 := rw_tr m3 k4 (N2 := 48) (by omega)
  have l4 := lw_x k4 l3
  obtain ⟨Z5, b5, e5, k5⟩ := s_apS (N := 1) (s := 1000043) k4.1 (rw_wk m4 (by omega)) (by omega) (by omega) (by decide)
  have m5 := rw_tr m4 k5 (N2 := 47) (by omega)
  have l5 := lw_x k5 l4
  have hv : g223_valueOf sg0 (i3 (l : Nat)) Z5 = some (icI l, Z5) := q_valueOf (by omega)
  obtain ⟨Z6, q6, e6, k6, f6, g6, i6, j6, t6⟩ := t_add (i := 0) (e := icI l) k5.1 (rw_wk m5 (by omega)) (by omega) (Or.inr (Or.inr (Or.inr (Or.inr (icd_I (by omega)))))) (Or.inr (by unfold icI; omega)) (by rw [i0, List.length_map]; omega)
  have m6 := rw_tr m5 k6 (N2 := 46) (by omega)
  have l6 := lw_x k6 l5
  obtain ⟨p7, Y7, Z7, q7, e7, e7', k7, u7, o7, f7, g7, i7, j7, t7⟩ := t_newL k6.1 (rw_wk m6 (by omega))
  have m7 := rw_tr m6 k7 (N2 := 45) (by omega)
  have l7 := lw_x k7 l6
  have y1 : (q7.2.2.2 1).1 = (q.2.2.2 1).1 := by rw [t7 1 (by omega), j6 1]
  have y2 : (q7.2.2.2 1).2.2 = (q.2.2.2 1).2.2 := by rw [t7 1 (by omega), t6 1 (by omega)]
  obtain ⟨Z8, q8, e8, k8, f8, g8, i8, j8, t8⟩ := t_add (i := 1) (e := p7) k7.1 (rw_wk m7 (by omega)) (by omega) (Or.inr (Or.inr (Or.inl (ks_of u7)))) (Or.inl o7) (by rw [y2, i1]; omega)
  have m8 := rw_tr m7 k8 (N2 := 44) (by omega)
  have l8 := lw_x k8 l7
  have y3 : q8.2.1 = q.2.1 := by rw [f8, f7, f6]
  have y4 : q8.2.2.1 = q.2.2.1 := by rw [g8, g7, g6]
  rw [y1] at e8
  have y5 : q8.2.1 7 + 1 = i3 ((c + 1 : Nat) : Int) := by rw [y3, hF7, i3_s]
  obtain ⟨Z9, q9, e9, k9, f9, g9, i9⟩ := t_put (f := 7) (v := q8.2.1 7 + 1) k8.1 (rw_wk m8 (by omega)) (by omega) rfl
  have m9 := rw_tr m8 k9 (N2 := 44) (by omega)
  have l9 := lw_x k9 l8
  have tot := wX_tr k1 (wX_tr k2 (wX_tr k3 (wX_tr k4 (wX_tr k5 (wX_tr k6 (wX_tr k7 (wX_tr k8 (k9))))))))
  have tx := tot.2.1
  simp only [ap_nl, List.append_nil] at tot tx
  have lt : lnTm a (a.1 ++ [l], (fun j => if j = a.1.length then 0 else a.2.1 j), a.2.2) (txS 1000044 ++ (chW a.1.length ++ (txS 1000042 ++ (decZ ((l : Nat) : Int) ++ txS 1000043)))) := ⟨l, hl.1, hl.2, hf, ha, rfl, rfl⟩
  have z0 : ∀ j, j ≠ 0 → j ≠ 1 → j ≠ n → q9.2.2.2 j = q.2.2.2 j := fun j d1 d2 d3 => by rw [i9]; rw [t8 j d2, t7 j d3, t6 j d1]
  have z1 : ∀ j, j ≠ n → (q9.2.2.2 j).1 = (q.2.2.2 j).1 := fun j d => by rw [i9]; rw [j8, t7 j d, j6]
  refine ⟨_, _, q9, _, ?_, wX_wk tot (by omega), lt, k9.1, ⟨a, b.2.2, _, hT, Or.inl lt, tx⟩, by rw [List.length_append, hn]; rfl, ⟨?_, ?_⟩, ⟨?_, ?_, ?_, ?_⟩, ⟨?_, ?_⟩, ⟨?_, ?_⟩, ?_, ?_⟩
  · rw [if_pos (wS_ro h1).1, e1, mjBq_some, wS_R k1.1 rfl r8, mjBp_some, if_pos (wT_ro k1.1 (i := 0) (by omega)), wS_sz k1.1 (by omega), i0, List.length_map, mjBp_some, if_pos (wS_ro k1.1).1, ch_i a.1.length (by omega), e2, mjBq_some, if_pos (wS_ro k2.1).1, e3, mjBq_some, if_pos (wS_ro k3.1).1, e4, mjBq_some, if_pos (wS_ro k4.1).1, e5, mjBq_some, wS_R k5.1 rfl r8, mjBp_some, hv, mjBq_some, if_pos (wT_ro k5.1 (i := 0) (by omega)), e6, mjBq_some, wS_R k6.1 rfl (by rw [g6]; exact r9), mjBp_some, e7, mjBq_some, e7', mjBq_some, if_pos (by rw [← y1]; exact wT_ro k7.1 (i := 1) (by omega)), e8, mjBq_some, wS_F k8.1 (by omega) (by decide) rfl, mjBp_some, e9, mjBp_some]
  · rw [g9 0 (by omega), y3]; exact hF0
  · rw [f9]; exact y5
  · rw [i9] 
    rw [y4, j8, t7 0 (by omega), j6]; exact r8
  · rw [i9]
    rw [y4, j8, t7 1 (by omega), j6]; exact r9
  · rw [i9]
    rw [y4, j8, t7 2 (by omega), j6]; exact r10
  · rw [i9]
    rw [y4, j8, t7 3 (by omega), j6]; exact r11
  · rw [i9]
    rw [t8 0 (by omega), t7 0 (by omega), i6, i0, List.map_append]; rfl
  · intro j hj
    show 1 ≤ (a.1 ++ [l]).getD j 0 ∧ (a.1 ++ [l]).getD j 0 ≤ 9
    have hj' : j < a.1.length + 1 := by rw [List.length_append] at hj; exact hj
    by_cases e : j = a.1.length
    · rw [e, gd_r]; exact hl
    · rw [gd_l _ _ _ (by omega)]; exact i0b j (by omega)
  · rw [i9]
    rw [i8, y2, List.length_append, i1, List.length_append]; rfl
  · intro k hk
    have hk' : k < a.1.length + 1 := by rw [List.length_append] at hk; exact hk
    show (q9.2.2.2 1).2.2.getD k 0 = (q9.2.2.2 (4 + k)).1 ∧ (q9.2.2.2 (4 + k)).2.2.length = if k = a.1.length then 0 else a.2.1 k
    have e1 : (q9.2.2.2 1).2.2 = (q.2.2.2 1).2.2 ++ [p7] := by rw [i9]; rw [i8, y2]
    rw [e1]
    by_cases e : k = a.1.length
    · have e2 : q9.2.2.2 (4 + k) = q7.2.2.2 n := by rw [i9]; rw [t8 _ (by omega), show 4 + k = n from by omega]
      rw [e2, i7, j7, if_pos e, e, ← i1, gd_r]
      exact ⟨rfl, rfl⟩
    · rw [if_neg e, gd_l _ _ _ (by omega), z0 (4 + k) (by omega) (by omega) (by omega)]
      exact i1b k (by omega)
  · rw [z0 2 (by omega) (by omega) (by omega)]; exact i2
  · rw [z0 3 (by omega) (by omega) (by omega)]; exact i3'
end WTM
