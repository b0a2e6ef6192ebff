/-! THE WORLD: whatever the script, it is made, and its text is one of lines -/
section WW
variable {x L Lg : Nat} {xs : Nat → Int32} {Z : mjQ}
theorem tx_len : (txS 1000041).length = 6 ∧ (txS 1000042).length = 1 ∧ (txS 1000043).length = 1 ∧ (txS 1000044).length = 6 ∧ (txS 1000045).length = 6 ∧ (txS 1000051).length = 4 ∧ (txS 1000052).length = 2 ∧ (txS 1000056).length = 8 ∧ (txS 1000057).length = 7 := by decide
theorem ch_len (k : Nat) : (chW k).length = 1 := rfl
theorem ln_len {a a2 : mjK} {u : List Int32} (h : lnW Lg a a2 u) (h0 : a2.2.2.2.1 = 0) : u.length ≤ 27 ∧ a.2.2.2.1 = 0 := by
  obtain ⟨t1, t2, t3, t4, t5, t6, t7, t8, t9⟩ := tx_len
  rcases h with ⟨l, -, h1, -, -, hu, ha⟩ | ⟨k, te, m, -, -, -, h1, -, -, -, hu, ha⟩ | ⟨kd, tm, ot, te, sz, hk, -, -, h1, h2, -, hu, ha⟩ | ⟨kd, w, e, -, -, -, -, hu, ha⟩ | ⟨k, -, h1, -, hu, ha⟩ | ⟨k, h1, -, hu, ha⟩
  · rw [ha] at h0
    refine ⟨?_, h0⟩
    have := dZ_len (z := ((l : Nat) : Int)) (by omega)
    rw [hu]
    simp only [List.length_append, ch_len, t2, t3, t4]
    omega
  · rw [ha] at h0
    refine ⟨?_, h0⟩
    have := dZ_len (z := ((te : Nat) : Int)) (by omega)
    have := dZ_len5 (z := m)
    rw [hu]
    simp only [List.length_append, ch_len, t2, t3, t5]
    omega
  · rw [ha] at h0
    refine ⟨?_, h0⟩
    have := dZ_len (z := ((te : Nat) : Int)) (by omega)
    have := dZ_len (z := ((sz : Nat) : Int)) (by omega)
    have := kd_tx kd (by omega)
    rw [hu]
    by_cases q : kd = 3
    · rw [if_pos q]
      simp only [List.length_append, ch_len, t2, t3, t6, t7]
      omega
    · rw [if_neg q]
      simp only [List.length_append, ch_len, t2, t3, t6, t7, List.length_nil]
      omega
  · rw [ha] at h0
    exact absurd h0 (Nat.succ_ne_zero _)
  · rw [ha] at h0
    refine ⟨?_, h0⟩
    have := dZ_len (z := ((k : Nat) : Int)) (by omega)
    rw [hu]
    simp only [List.length_append, t3, t8]
    omega
  · rw [ha] at h0
    refine ⟨?_, h0⟩
    have := dZ_len (z := ((k : Nat) : Int)) (by omega)
    rw [hu]
    simp only [List.length_append, t3, t9]
    omega
theorem lns_len : ∀ c a t, lnsW Lg c a t → a.2.2.2.1 = 0 → t.length ≤ 31 + 27 * c
  | 0, a, t, h, h0 => by
    obtain ⟨t1, t2, t3, t4, t5, t6, t7, t8, t9⟩ := tx_len
    obtain ⟨-, -, hL, le, be, af, cu, -, hl, hb, hf, hc, e⟩ := h
    have g1 := dZ_len (z := ((Lg : Nat) : Int)) (by omega)
    have g2 := dZ_len (z := ((le : Nat) : Int)) (by omega)
    have g3 := dZ_len (z := ((be : Nat) : Int)) (by omega)
    have g4 := dZ_len (z := ((af : Nat) : Int)) (by omega)
    have g5 := dZ_len (z := ((cu : Nat) : Int)) (by omega)
    rw [e]
    simp only [List.length_append, t1, t2, t3]
    omega
  | c + 1, a, t, h, h0 => by
    obtain ⟨a1, t1, u, h1, h2, e⟩ := h
    obtain ⟨g1, g2⟩ := ln_len h2 h0
    have := lns_len c a1 t1 h1 g2
    rw [e, List.length_append]
    omega
theorem w_rest {sb k : Nat} {b : mjBb} {q : mjV} (h : wI x sb L xs Lg 0 ([], (fun _ => 0), 0, 0, false, false) 4 Z b q) (hk : 1 ≤ k ∧ k ≤ 3) (hL : Lg ≤ 4) (hb : b.2.2.length ≤ 60) (hc : Z.1.1 ≤ 200) (hs : Z.1.2 ≤ 100000) (hq : q.1 ≤ 110) : ∃ Zf t c, g197_init_h229 sg0 mjF x 2000000 sb (i3 (k : Nat)) Z = some ((), Zf) ∧ wF x L xs Lg Zf t c k ∧ t.length ≤ 681 ∧ Zf.1.1 ≤ 75000 ∧ Zf.1.2 ≤ 3000000 ∧ c ≤ 30 := by
  have m0 : rmW 2000 Z b q := ⟨by omega, by omega, by omega⟩
  obtain ⟨n1, Z1, b1, q1, a1, u1, e1, x1, h1, l1, z1, o1⟩ := w_teams (p := 2000000) k mjF 4 0 Z b q _ (by unfold mjF; omega) (by show 0 + k ≤ 3; omega) h (rw_wk m0 (by omega)) (fun j hj => rfl)
  have l1' : a1.1.length = k := l1.trans (Nat.zero_add k)
  have m1 := rw_tr m0 x1 (N2 := 1800) (by omega)
  obtain ⟨kp, r, Z2, b2, q2, a2, c2, u2, e2, hr, x2, h2, K2, l2, o2, cc2⟩ := w_legs (p := 2000000) k 0 mjF n1 (0 + k) Z1 b1 q1 a1 (by omega) (by unfold mjF; omega) (by omega) hL (fun j _ hj => z1 j hj) h1 (rw_wk m1 (by omega))
  have m2 := rw_tr m1 x2 (N2 := 1000) (by omega)
  have a20 : a2.2.2.1 = 0 := by rw [o2, o1]
  obtain ⟨r3, Z3, b3, q3, a3, u3, e3, hr3, x3, h3, K3, l3, t3, o3⟩ := w_acts (p := 2000000) r mjF n1 c2 Z2 b2 q2 a2 (by unfold mjF; omega) (by omega) (by rw [l2]; omega) (by rw [l2]; omega) h2 K2 (rw_wk m2 (by omega))
  have a30 : a3.2.2.2 = (0, false, false) := by rw [o3, o2, o1]
  have lb3 : b3.2.2.length ≤ 31 + 27 * (c2 + r) := lns_len _ _ _ h3.2.1 (by rw [a30])
  have b1c := x1.2.2.2.1
  have b1s := x1.2.2.2.2.1
  have b1q := x1.2.2.2.2.2.2.2.1
  have b1k : b1.2.1 ≤ 40000 := x1.1.1.2.2.2.2.2.2.1
  have b2c := x2.2.2.2.1
  have b2s := x2.2.2.2.2.1
  have b2q := x2.2.2.2.2.2.2.2.1
  have b2k : b2.2.1 ≤ 40000 := x2.1.1.2.2.2.2.2.2.1
  have b3c := x3.2.2.2.1
  have b3s := x3.2.2.2.2.1
  have b3q := x3.2.2.2.2.2.2.2.1
  have b3k : b3.2.1 ≤ 40000 := x3.1.1.2.2.2.2.2.2.1
  obtain ⟨N4, Z4, b4, q4, a4, c4, e4, h4, lb4, b4c, b4s, b4q, l4, o4, cc4⟩ := w_rules r3 mjF (c2 + r) Z3 b3 q3 a3 (by unfold mjF; omega) (by omega) (by rw [a30]; show 0 + r3 ≤ 2; omega) h3 K3 (by omega) (by omega) (by omega) (by omega)
  obtain ⟨Z5, t, c5, e5, w5, lt, b5c, b5s, cc5⟩ := w_th (N := N4) h4 lb4 (by omega) (by omega) (by rw [o4, a30])
  have la4 : a4.1.length = k := by rw [l4, l3, l2, l1']
  rw [la4] at w5
  refine ⟨Z5, t, c5, ?_, w5, lt, by omega, by omega, by omega⟩
  have e2' : g197_init_h360 sg0 mjF x 2000000 sb 0 Z1 = _ := e2
  rw [e1, e2', e3, e4, e5]
theorem w_world (hk : Z.2.2.2.2 x = (16, 0)) (h0 : ∀ j, Z.2.1 x j = 0) (hw : wokQ Z) (hs : scI Z L xs) (hx : x < 1000 + Z.1.1) (hn : Z.1.1 ≤ 20) (hsl : Z.1.2 ≤ 1000) : ∃ Zf t c T Lg, g197_init sg0 x 2000000 Z = some ((), Zf) ∧ wF x L xs Lg Zf t c T ∧ 1 ≤ T ∧ T ≤ 3 ∧ t.length ≤ 681 ∧ Zf.1.1 ≤ 75000 ∧ Zf.1.2 ≤ 3000000 ∧ c ≤ 30 := by
  have hz : mjSzK (20, 0) ≤ 16 := by decide
  have B0 : wB x L xs 0 Z (0, Z.2.1 x, Z.2.2.2.1 x, fun _ => (0, 0, [])) := ⟨⟨hk, rfl, h0 15, fun _ _ => rfl, hx⟩, hw, hs, fun i hi => absurd hi (Nat.not_lt_zero _), fun i j hi => absurd hi (Nat.not_lt_zero _)⟩
  obtain ⟨Z1, e1, B1, f1, c1⟩ := b_put (f := 5) (v := 2) B0 (by omega) (by omega) rfl
  obtain ⟨Z2, e2, B2, f2, c2⟩ := b_put (f := 6) (v := 5) B1 (by rw [c1]; omega) (by omega) rfl
  have k2 : Z2.1 = Z.1 := c2.trans c1
  obtain ⟨p3, Y3, X3, Z3, q3, e3, e3', e3'', B3, c3, a3, F3, R3, Ro3, T3, To3⟩ := b_list (f := 8) B2 (by rw [k2]; omega) rfl
  obtain ⟨p4, Y4, X4, Z4, q4, e4, e4', e4'', B4, c4, a4, F4, R4, Ro4, T4, To4⟩ := b_list (f := 9) B3 (by rw [c3]; show Z2.1.1 + 1 < 80000; rw [k2]; omega) rfl
  have n4 : Z4.1.1 = Z.1.1 + 2 := by rw [c4]; show Z3.1.1 + 1 = _; rw [c3]; show Z2.1.1 + 1 + 1 = _; rw [k2]
  have s4 : Z4.1.2 = Z.1.2 + mjSzK (20, 0) + mjSzK (20, 0) := by rw [c4]; show Z3.1.2 + _ = _; rw [c3]; show Z2.1.2 + _ + _ = _; rw [k2]
  obtain ⟨p5, Y5, X5, Z5, q5, e5, e5', e5'', B5, c5, a5, F5, R5, Ro5, T5, To5⟩ := b_list (f := 10) B4 (by omega) rfl
  have n5 : Z5.1.1 = Z4.1.1 + 1 := by rw [c5]
  have s5 : Z5.1.2 = Z4.1.2 + mjSzK (20, 0) := by rw [c5]
  obtain ⟨p6, Y6, X6, Z6, q6, e6, e6', e6'', B6, c6, a6, F6, R6, Ro6, T6, To6⟩ := b_list (f := 11) B5 (by omega) rfl
  have n6 : Z6.1.1 = Z5.1.1 + 1 := by rw [c6]
  have s6 : Z6.1.2 = Z5.1.2 + mjSzK (20, 0) := by rw [c6]
  obtain ⟨Z7, e7, B7, f7, c7⟩ := b_put (f := 12) (v := -1) B6 (by omega) (by omega) rfl
  obtain ⟨Z8, e8, B8, f8, c8⟩ := b_putR (f := 14) (b := 2000000) B7 (by rw [c7]; omega) rfl
  have n8 : Z8.1 = Z6.1 := c8.trans c7
  obtain ⟨q8, hq8⟩ : ∃ q8 : mjV, q8 = (q6.1, (fun j => if j = 12 then -1 else q6.2.1 j), (fun j => if j = 14 then some 2000000 else q6.2.2.1 j), q6.2.2.2) := ⟨_, rfl⟩
  have A8 : wA x L xs 4 Z8 q8 := by
    rw [hq8]
    refine wB_A B8 ?_
    show (if (14 : Nat) = 14 then some 2000000 else q6.2.2.1 14) = _
    rw [if_pos rfl]
  have q8a : q8.1 = 0 := by rw [hq8]; show q6.1 = 0; rw [a6, a5, a4, a3]
  have q8F : ∀ j, j ≠ 12 → q8.2.1 j = q6.2.1 j := fun j hj => by
    rw [hq8]
    show (if j = 12 then -1 else q6.2.1 j) = _
    rw [if_neg hj]
  have q8R : ∀ j, j ≠ 14 → q8.2.2.1 j = q6.2.2.1 j := fun j hj => by
    rw [hq8]
    show (if j = 14 then some 2000000 else q6.2.2.1 j) = _
    rw [if_neg hj]
  have q8T : q8.2.2.2 = q6.2.2.2 := by rw [hq8]
  have F67 : q6.2.1 7 = i3 ((0 : Nat) : Int) := by
    rw [F6, F5, F4, F3]
    show (if (7 : Nat) = 6 then (5 : Int32) else if (7 : Nat) = 5 then 2 else Z.2.1 x 7) = _
    rw [if_neg (by decide), if_neg (by decide), h0]
    rfl
  obtain ⟨Z9, e9, A9, f9, c9, hr9⟩ := w_next (k := 3) A8 (by rw [n8]; omega) (by omega) (by omega)
  obtain ⟨Z10, e10, A10, f10, c10⟩ := w_put (f := 0) (v := i3 ((2 + pkN L xs (q8.1 + 1) 3 : Nat) : Int)) A9 (by rw [c9, n8]; omega) (by omega) rfl
  obtain ⟨Z11, e11, A11, f11, c11, hr11⟩ := w_next (k := 60) A10 (by rw [c10, c9, n8]; omega) (by show q8.1 + 1 ≤ 90000; omega) (by omega)
  obtain ⟨Z12, e12, A12, f12, c12⟩ := w_put (f := 1) (v := i3 ((50 + pkN L xs (q8.1 + 1 + 1) 60 : Nat) : Int)) A11 (by rw [c11, c10, c9, n8]; omega) (by omega) rfl
  obtain ⟨Z13, e13, A13, f13, c13, hr13⟩ := w_next (k := 15) A12 (by rw [c12, c11, c10, c9, n8]; omega) (by show q8.1 + 1 + 1 ≤ 90000; omega) (by omega)
  obtain ⟨Z14, e14, A14, f14, c14⟩ := w_put (f := 2) (v := i3 (pkN L xs (q8.1 + 1 + 1 + 1) 15 : Nat)) A13 (by rw [c13, c12, c11, c10, c9, n8]; omega) (by omega) rfl
  obtain ⟨Z15, e15, A15, f15, c15, hr15⟩ := w_next (k := 15) A14 (by rw [c14, c13, c12, c11, c10, c9, n8]; omega) (by show q8.1 + 1 + 1 + 1 ≤ 90000; omega) (by omega)
  obtain ⟨Z16, e16, A16, f16, c16⟩ := w_put (f := 3) (v := i3 (pkN L xs (q8.1 + 1 + 1 + 1 + 1) 15 : Nat)) A15 (by rw [c15, c14, c13, c12, c11, c10, c9, n8]; omega) (by omega) rfl
  have n16 : Z16.1 = Z6.1 := by rw [c16, c15, c14, c13, c12, c11, c10, c9, n8]
  obtain ⟨Z17, e17, A17, f17, c17, hr17⟩ := w_next (k := 2) A16 (by rw [n16]; omega) (by show q8.1 + 1 + 1 + 1 + 1 ≤ 90000; omega) (by omega)
  have n17 : Z17.1 = Z6.1 := c17.trans n16
  have r9 : pkN L xs (q8.1 + 1) 3 < 3 := pkN_lt (by omega)
  have r11 : pkN L xs (q8.1 + 1 + 1) 60 < 60 := pkN_lt (by omega)
  have r13 : pkN L xs (q8.1 + 1 + 1 + 1) 15 < 15 := pkN_lt (by omega)
  have r15 : pkN L xs (q8.1 + 1 + 1 + 1 + 1) 15 < 15 := pkN_lt (by omega)
  clear hr9 hr11 hr13 hr15 hr17
  have q8c : q8.1 + 1 + 1 + 1 + 1 + 1 ≤ 100 := by omega
  have bnd : Z17.1.1 ≤ 100 ∧ Z17.1.2 ≤ 10000 := ⟨by rw [n17]; omega, by rw [n17]; omega⟩
  have F17 : ∀ (G : Nat → Int32), G = (fun j => if j = 3 then i3 (pkN L xs (q8.1 + 1 + 1 + 1 + 1) 15 : Nat) else if j = 2 then i3 (pkN L xs (q8.1 + 1 + 1 + 1) 15 : Nat) else if j = 1 then i3 ((50 + pkN L xs (q8.1 + 1 + 1) 60 : Nat) : Int) else if j = 0 then i3 ((2 + pkN L xs (q8.1 + 1) 3 : Nat) : Int) else q8.2.1 j) → G 0 = i3 ((2 + pkN L xs (q8.1 + 1) 3 : Nat) : Int) ∧ G 1 = i3 ((50 + pkN L xs (q8.1 + 1 + 1) 60 : Nat) : Int) ∧ G 2 = i3 (pkN L xs (q8.1 + 1 + 1 + 1) 15 : Nat) ∧ G 3 = i3 (pkN L xs (q8.1 + 1 + 1 + 1 + 1) 15 : Nat) ∧ G 7 = q8.2.1 7 := fun G hG => by
    rw [hG]
    exact ⟨rfl, rfl, rfl, rfl, rfl⟩
  obtain ⟨g0, g1, g2, g3, g7⟩ := F17 _ rfl
  have R8 : q8.2.2.1 8 = some (q8.2.2.2 0).1 ∧ q8.2.2.1 9 = some (q8.2.2.2 1).1 ∧ q8.2.2.1 10 = some (q8.2.2.2 2).1 ∧ q8.2.2.1 11 = some (q8.2.2.2 3).1 := by
    rw [q8R 8 (by omega), q8R 9 (by omega), q8R 10 (by omega), q8R 11 (by omega), q8T]
    refine ⟨?_, ?_, ?_, ?_⟩
    · rw [Ro6 8 (by omega), Ro5 8 (by omega), Ro4 8 (by omega), R3, To6 0 (by omega), To5 0 (by omega), To4 0 (by omega), T3]
    · rw [Ro6 9 (by omega), Ro5 9 (by omega), R4, To6 1 (by omega), To5 1 (by omega), T4]
    · rw [Ro6 10 (by omega), R5, To6 2 (by omega), T5]
    · rw [R6, T6]
  have I0 : (q8.2.2.2 0).2.2 = [] ∧ (q8.2.2.2 1).2.2 = [] ∧ (q8.2.2.2 2).2.2 = [] ∧ (q8.2.2.2 3).2.2 = [] := by
    rw [q8T]
    refine ⟨?_, ?_, ?_, ?_⟩
    · rw [To6 0 (by omega), To5 0 (by omega), To4 0 (by omega), T3]
    · rw [To6 1 (by omega), To5 1 (by omega), T4]
    · rw [To6 2 (by omega), T5]
    · rw [T6]
  have go : ∀ (cu : Nat) (Y : mjQ) (qa : Nat), wA x L xs 4 Y (qa, (fun j => if j = 3 then i3 (pkN L xs (q8.1 + 1 + 1 + 1 + 1) 15 : Nat) else if j = 2 then i3 (pkN L xs (q8.1 + 1 + 1 + 1) 15 : Nat) else if j = 1 then i3 ((50 + pkN L xs (q8.1 + 1 + 1) 60 : Nat) : Int) else if j = 0 then i3 ((2 + pkN L xs (q8.1 + 1) 3 : Nat) : Int) else q8.2.1 j), q8.2.2) → Y.1 = Z17.1 → qa ≤ 100 → cu ≤ 50 + pkN L xs (q8.1 + 1 + 1) 60 → g197_init sg0 x 2000000 Z = g197_init_j135 sg0 x 2000000 x (i3 (cu : Nat)) Y → ∃ Zf t c T Lg, g197_init sg0 x 2000000 Z = some ((), Zf) ∧ wF x L xs Lg Zf t c T ∧ 1 ≤ T ∧ T ≤ 3 ∧ t.length ≤ 681 ∧ Zf.1.1 ≤ 75000 ∧ Zf.1.2 ≤ 3000000 ∧ c ≤ 30 := by
    intro cu Y qa AY nY hqa hcu eY
    obtain ⟨sb, r, Zf, b2, q2, d1, d2, d3, d4, d5, d6, d7⟩ := w_j135 (cu := cu) AY (by rw [nY]; exact bnd.1) (by rw [nY]; exact bnd.2) hqa (Lg := 2 + pkN L xs (q8.1 + 1) 3) (by omega) (le := 50 + pkN L xs (q8.1 + 1 + 1) 60) (by omega) (be := pkN L xs (q8.1 + 1 + 1 + 1) 15) (by omega) (af := pkN L xs (q8.1 + 1 + 1 + 1 + 1) 15) (by omega) hcu g0 g1 g2 g3 (g7.trans ((q8F 7 (by omega)).trans F67)) R8 I0
    obtain ⟨Zg, t, c, v1, v2, v3, v4, v5, v6⟩ := w_rest (k := r + 1) d3 (by omega) (by omega) d4 d5 d6 d7
    exact ⟨Zg, t, c, r + 1, _, eY.trans (d1.trans v1), v2, by omega, by omega, v3, v4, v5, v6⟩
  have e9' : g195_next sg0 x 3 Z8 = _ := e9
  have e11' : g195_next sg0 x 60 Z10 = _ := e11
  have e13' : g195_next sg0 x 15 Z12 = _ := e13
  have e15' : g195_next sg0 x 15 Z14 = _ := e15
  have e17' : g195_next sg0 x 2 Z16 = _ := e17
  have head : g197_init sg0 x 2000000 Z = (if mjCmp .ne (i3 (pkN L xs (q8.1 + 1 + 1 + 1 + 1 + 1) 2 : Nat)) 0 = true then
    mjBp (qI Z17.2 x 16 1) fun v170 =>
    if mjRo Z17.2 x 16 = true then
    mjBq (g195_next sg0 x (v170 + 1) Z17) fun v174 Z175 =>
    g197_init_j135 sg0 x 2000000 x v174 Z175
    else none
  else
    g197_init_j135 sg0 x 2000000 x 0 Z17) := by
    unfold g197_init
    rw [e1, mjBp_some, e2, mjBp_some, e3, mjBq_some, e3', mjBq_some, e3'', mjBp_some, e4, mjBq_some, e4', mjBq_some, e4'', mjBp_some, e5, mjBq_some, e5', mjBq_some, e5'', mjBp_some, e6, mjBq_some, e6', mjBq_some, e6'', mjBp_some, e7, mjBp_some, e8, mjBp_some, if_pos (w_ro A8), e9', mjBq_some, show (2 : Int32) + i3 (pkN L xs (q8.1 + 1) 3 : Nat) = i3 ((2 + pkN L xs (q8.1 + 1) 3 : Nat) : Int) from by (rw [show (2 : Int32) = i3 2 from rfl, i3_add]; congr 1), e10, mjBp_some, if_pos (w_ro A10), e11', mjBq_some, show (50 : Int32) + i3 (pkN L xs (q8.1 + 1 + 1) 60 : Nat) = i3 ((50 + pkN L xs (q8.1 + 1 + 1) 60 : Nat) : Int) from by (rw [show (50 : Int32) = i3 50 from rfl, i3_add]; congr 1), e12, mjBp_some, if_pos (w_ro A12), e13', mjBq_some, e14, mjBp_some, if_pos (w_ro A14), e15', mjBq_some, e16, mjBp_some, if_pos (w_ro A16), e17', mjBq_some]
  by_cases z : pkN L xs (q8.1 + 1 + 1 + 1 + 1 + 1) 2 = 0
  · refine go 0 Z17 _ A17 rfl q8c (by omega) ?_
    rw [head, z, if_neg (by decide)]
    rfl
  · obtain ⟨Z18, e18, A18, f18, c18, hr18⟩ := w_next (k := 50 + pkN L xs (q8.1 + 1 + 1) 60 + 1) A17 (by omega) (by show q8.1 + 1 + 1 + 1 + 1 + 1 ≤ 90000; omega) (by omega)
    obtain ⟨cu, ecu, hcu⟩ : ∃ cu : Nat, g195_next sg0 x (i3 ((50 + pkN L xs (q8.1 + 1 + 1) 60 + 1 : Nat) : Int)) Z17 = some (i3 (cu : Nat), Z18) ∧ cu < 50 + pkN L xs (q8.1 + 1 + 1) 60 + 1 := ⟨_, e18, hr18⟩
    clear hr18 e18
    refine go cu Z18 _ A18 c18 (by show q8.1 + 1 + 1 + 1 + 1 + 1 + 1 ≤ 100; omega) (by omega) ?_
    have u1 : qI Z17.2 x 16 1 = some (i3 ((50 + pkN L xs (q8.1 + 1 + 1) 60 : Nat) : Int)) := by rw [w_F A17 (by omega) (by decide)]; exact congrArg some g1
    have z2 : mjCmp .ne (i3 (pkN L xs (q8.1 + 1 + 1 + 1 + 1 + 1) 2 : Nat)) 0 = true := by
      have := pkN_lt (L := L) (xs := xs) (k := q8.1 + 1 + 1 + 1 + 1 + 1) (n := 2) (by omega)
      rw [show (0 : Int32) = i3 0 from rfl, c_ne (by omega)]; omega
    rw [head, if_pos z2, u1, mjBp_some, if_pos (w_ro A17), i3_s, ecu, mjBq_some]
end WW
