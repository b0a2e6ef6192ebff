/-! the legs' lines -/
section WRU
variable {x sb L n N Lg c : Nat} {xs : Nat → Int32} {Z Z2 : mjQ} {b b2 : mjBb} {q q2 : mjV} {a : mjK} {t u : List Int32}
theorem t_newA {t w : Nat} (h : wS x sb L xs n Z b q) (hm : rmW 1 Z b q) (hz : mjSzK (t, w) ≤ 16) (hw : w ≤ 100) : ∃ (p : Nat) (Z2 : mjQ), qNewA sg0 Z t (i3 (w : Nat)) = some (p, Z2) ∧ wX x sb L xs n 1 Z b q n Z2 b q [] ∧ p = 1000 + Z.1.1 ∧ obO (t, w) Z2 p (fun _ => 0) ∧ rfO (t, w) Z2 p (fun _ => none) := by
  obtain ⟨p, Z2, e1, e2⟩ := t_new h hm hz
  refine ⟨p, Z2, ?_, e2⟩
  unfold qNewA
  rw [i3_int (by omega), if_pos (by omega), Int.toNat_natCast]
  exact e1
set_option maxRecDepth 4000 in
theorem w_run {k te p : Nat} {m : Int} {f : Nat → Int32} (h : wI x sb L xs Lg c a n Z b q) (hm : rmW 60 Z b q) (hk : k < a.1.length) (ha : a.1.length ≤ 3) (htd : a.2.1 k < Lg) (hLg : Lg ≤ 4) (hte : 20 ≤ te ∧ te ≤ 999) (hmm : -20 ≤ m ∧ m ≤ 20) (hlast : a.2.1 k + 1 = Lg → m = 0) (hp : obO (113, 2) Z p f) (hf0 : f 0 = i3 (te : Nat)) (hf1 : f 1 = i3 m) (R : mjQ → Option (Unit × mjQ)) : ∃ Z2 b2 q2 u, 
    (if mjRo Z.2 sb 19 = true then
        mjBq (g233_append sg0 sb 1000045 Z) fun v617 Z618 =>
        if mjRo Z618.2 v617 19 = true then
        mjBq (g229_append sg0 v617 (((97 + i3 (k : Nat)).toUInt32 % 65536).toInt32) Z618) fun v621 Z622 =>
        if mjRo Z622.2 v621 19 = true then
        mjBq (g233_append sg0 v621 1000042 Z622) fun v625 Z626 =>
        mjBp (qIa Z626.2 p 0) fun v627 =>
        if mjRo Z626.2 v625 19 = true then
        mjBq (g230_append sg0 v625 v627 Z626) fun v631 Z632 =>
        if mjRo Z632.2 v631 19 = true then
        mjBq (g233_append sg0 v631 1000042 Z632) fun v635 Z636 =>
        mjBp (qIa Z636.2 p 1) fun v637 =>
        if mjRo Z636.2 v635 19 = true then
        mjBq (g230_append sg0 v635 v637 Z636) fun v641 Z642 =>
        if mjRo Z642.2 v641 19 = true then
        mjBq (g233_append sg0 v641 1000043 Z642) fun v645 Z646 =>
        mjBp (qR Z646.2 x 16 9) fun v647 =>
        if mjRo Z646.2 v647 20 = true then
        mjBp (g244_get v647 (i3 (k : Nat)) Z646) fun v651 =>
        if mjKs Z646.2 v651 20 = true then
        if mjRo Z646.2 v651 20 = true then
        mjBq (g240_add sg0 v651 p Z646) fun v656 Z657 =>
        mjBp (qI Z657.2 x 16 7) fun v658 =>
        mjBp (qSi Z657 x 16 7 (v658 + 1)) fun Z660 =>
        R Z660
        else none
        else none
        else none
        else none
        else none
        else none
        else none
        else none
        else none
        else none) = R Z2 ∧ wX x sb L xs n 60 Z b q n Z2 b2 q2 u ∧ wI x sb L xs Lg (c + 1) (a.1, (fun j => if j = k then a.2.1 k + 1 else a.2.1 j), a.2.2) n Z2 b2 q2 := by
  have h' := h
  obtain ⟨h1, hT, hn, ⟨hF0, hF7⟩, ⟨r8, r9, r10, r11⟩, ⟨i0, i0b⟩, ⟨i1, i1b⟩, i2, i3'⟩ := h'
  have l0 := lns_5 _ _ _ hT
  have m0 := hm
  obtain ⟨Z1, b1, e1, k1⟩ := s_apS (N := 6) (s := 1000045) h1 (rw_wk m0 (by omega)) (by omega) (by omega) (by decide)
  have m1 := rw_tr m0 k1 (N2 := 54) (by omega)
  have l1 := lw_x k1 l0
  obtain ⟨Z2, b2, e2, k2⟩ := s_apC (N := 1) (c := 97 + k) k1.1 (rw_wk m1 (by omega)) (by omega) (by omega)
  have m2 := rw_tr m1 k2 (N2 := 53) (by omega)
  have l2 := lw_x k2 l1
  obtain ⟨Z3, b3, e3, k3⟩ := s_apS (N := 1) (s := 1000042) k2.1 (rw_wk m2 (by omega)) (by omega) (by omega) (by decide)
  have m3 := rw_tr m2 k3 (N2 := 52) (by omega)
  have l3 := lw_x k3 l2
  have p3 := ob_x (ob_x (ob_x hp (by unfold kpO; omega) k1) (by unfold kpO; omega) k2) (by unfold kpO; omega) k3
  obtain ⟨Z4, b4, e4, k4⟩ := s_apI (N := 4) (z := ((te : Nat) : Int)) k3.1 (rw_wk m3 (by omega)) (by omega) l3 (by omega) (dZ_len (by omega))
  have m4 := rw_tr m3 k4 (N2 := 48) (by omega)
  have l4 := lw_x k4 l3
  obtain ⟨Z5, b5, e5, k5⟩ := s_apS (N := 1) (s := 1000042) k4.1 (rw_wk m4 (by omega)) (by omega) (by omega) (by decide)
  have m5 := rw_tr m4 k5 (N2 := 47) (by omega)
  have l5 := lw_x k5 l4
  have p5 := ob_x (ob_x p3 (by unfold kpO; omega) k4) (by unfold kpO; omega) k5
  obtain ⟨Z6, b6, e6, k6⟩ := s_apI (N := 5) (z := m) k5.1 (rw_wk m5 (by omega)) (by omega) l5 (by omega) dZ_len5
  have m6 := rw_tr m5 k6 (N2 := 42) (by omega)
  have l6 := lw_x k6 l5
  obtain ⟨Z7, b7, e7, k7⟩ := s_apS (N := 1) (s := 1000043) k6.1 (rw_wk m6 (by omega)) (by omega) (by omega) (by decide)
  have m7 := rw_tr m6 k7 (N2 := 41) (by omega)
  have l7 := lw_x k7 l6
  have p7 := ob_x (ob_x p5 (by unfold kpO; omega) k6) (by unfold kpO; omega) k7
  have get : g244_get (q.2.2.2 1).1 (i3 (k : Nat)) Z7 = some (q.2.2.2 (4 + k)).1 := by
    have := q_get (i := k) (k7.1.2.2.2.2.1 1 (by omega)) (by rw [i1]; exact hk) (by have := m7.1; omega)
    rw [(i1b k hk).1] at this
    exact this
  obtain ⟨Z8, q8, e8, k8, f8, g8, i8, j8, t8⟩ := t_add (i := 4 + k) (e := p) k7.1 (rw_wk m7 (by omega)) (by omega) (Or.inr (Or.inr (Or.inr (Or.inl (ks_of p7.1))))) (Or.inl p7.2.1) (by rw [(i1b k hk).2]; omega)
  have m8 := rw_tr m7 k8 (N2 := 40) (by omega)
  have l8 := lw_x k8 l7
  have y3 : q8.2.1 = q.2.1 := f8
  have y4 : q8.2.2.1 = q.2.2.1 := g8
  have y5 : q8.2.1 7 + 1 = i3 ((c + 1 : Nat) : Int) := by rw [y3, hF7, i3_s]
  obtain ⟨Z9, q9, e9, k9, f9, g9, i9⟩ := t_put (f := 7) (v := q8.2.1 7 + 1) k8.1 (rw_wk m8 (by omega)) (by omega) rfl
  have m9 := rw_tr m8 k9 (N2 := 40) (by omega)
  have l9 := lw_x k9 l8
  have tot := wX_tr k1 (wX_tr k2 (wX_tr k3 (wX_tr k4 (wX_tr k5 (wX_tr k6 (wX_tr k7 (wX_tr k8 (k9))))))))
  have tx := tot.2.1
  simp only [ap_nl, List.append_nil] at tot tx
  have lt : lnRu Lg a (a.1, (fun j => if j = k then a.2.1 k + 1 else a.2.1 j), a.2.2) (txS 1000045 ++ (chW k ++ (txS 1000042 ++ (decZ ((te : Nat) : Int) ++ (txS 1000042 ++ (decZ m ++ txS 1000043)))))) := ⟨k, te, m, hk, htd, hte.1, hte.2, hmm.1, hmm.2, hlast, rfl, rfl⟩
  have z0 : ∀ j, j ≠ 4 + k → q9.2.2.2 j = q.2.2.2 j := fun j d1 => by rw [i9]; rw [t8 j d1]
  have z1 : ∀ j, (q9.2.2.2 j).1 = (q.2.2.2 j).1 := fun j => by rw [i9]; rw [j8]
  refine ⟨_, _, q9, _, ?_, wX_wk tot (by omega), k9.1, ⟨a, b.2.2, _, hT, Or.inr (Or.inl lt), tx⟩, hn, ⟨?_, ?_⟩, ⟨?_, ?_, ?_, ?_⟩, ⟨?_, i0b⟩, ⟨?_, ?_⟩, ?_, ?_⟩
  · rw [if_pos (wS_ro h1).1, e1, mjBq_some, if_pos (wS_ro k1.1).1, ch_i k (by omega), e2, mjBq_some, if_pos (wS_ro k2.1).1, e3, mjBq_some, show (0 : Int32) = i3 ((0 : Nat) : Int) from rfl, ob_Ia p3 (by omega) (by omega) hf0, mjBp_some, if_pos (wS_ro k3.1).1, e4, mjBq_some, if_pos (wS_ro k4.1).1, e5, mjBq_some, show (1 : Int32) = i3 ((1 : Nat) : Int) from rfl, ob_Ia p5 (by omega) (by omega) hf1, mjBp_some, if_pos (wS_ro k5.1).1, e6, mjBq_some, if_pos (wS_ro k6.1).1, e7, mjBq_some, wS_R k7.1 rfl r9, mjBp_some, if_pos (wT_ro k7.1 (i := 1) (by omega)), get, mjBp_some, if_pos (ks_of (k7.1.2.2.2.2.1 (4 + k) (by omega)).1), if_pos (wT_ro k7.1 (i := 4 + k) (by omega)), e8, mjBq_some, wS_F k8.1 (by omega) (by decide) rfl, mjBp_some]
    show mjBp (qSi Z8 x 16 7 (q8.2.1 7 + 1)) _ = _
    rw [e9, mjBp_some]
  · rw [g9 0 (by omega), y3]; exact hF0
  · rw [f9]; exact y5
  · rw [i9, y4, j8]; exact r8
  · rw [i9, y4, j8]; exact r9
  · rw [i9, y4, j8]; exact r10
  · rw [i9, y4, j8]; exact r11
  · rw [z0 0 (by omega)]; exact i0
  · rw [z0 1 (by omega)]; exact i1
  · intro j hj
    rw [z0 1 (by omega), z1]
    refine ⟨(i1b j hj).1, ?_⟩
    show (q9.2.2.2 (4 + j)).2.2.length = if j = k then a.2.1 k + 1 else a.2.1 j
    by_cases e : j = k
    · rw [if_pos e, e, i9, i8, List.length_append, (i1b k hk).2]; rfl
    · rw [if_neg e, z0 _ (by omega)]; exact (i1b j hj).2
  · rw [z0 2 (by omega)]; exact i2
  · rw [z0 3 (by omega)]; exact i3'
end WRU
