/-! a rule; all rules -/
section WRL
variable {x sb own L n Lg c kp : Nat} {xs : Nat → Int32} {Z Z2 : mjQ} {b b2 bo : mjBb} {q q2 : mjV} {a : mjK}
theorem wS_w {s r : Nat} {v : Int32} {j : Nat} (h : wS x s L xs n Z b q) (hm : Z.1.1 ≤ 90000) (hr : Z.2.2.2.2 r = (15, 0)) : wS x s L xs n (Z.1, mjSi Z.2 r j v) b q := by
  have f : frm Z (Z.1, mjSi Z.2 r j v) (fun a => a = r) := frm_si rfl
  exact ⟨bS_frm2 h.1 f (fun a e => by have e9 : a = r := e; rw [e9, hr]; decide), wA_frm h.2 hm f (fun a e => by have e9 : a = r := e; rw [e9, hr]; decide)⟩
theorem wS_wr {s r : Nat} {v : Option Nat} {j : Nat} (h : wS x s L xs n Z b q) (hm : Z.1.1 ≤ 90000) (hr : Z.2.2.2.2 r = (15, 0)) : wS x s L xs n (Z.1, mjSr Z.2 r j v) b q := by
  have f : frm Z (Z.1, mjSr Z.2 r j v) (fun a => a = r) := frm_sr rfl
  exact ⟨bS_frm2 h.1 f (fun a e => by have e9 : a = r := e; rw [e9, hr]; decide), wA_frm h.2 hm f (fun a e => by have e9 : a = r := e; rw [e9, hr]; decide)⟩
/-- the rule's fields, behind a test's growing -/
theorem w_fill {f1 f2 r g pt : Nat} {cm : Int32} (hr : Z.2.2.2.2 r = (15, 0)) (hg : Z.2.2.2.2 g = (13, 0)) (hc : Z.2.1 g 3 = cm) (hf1 : mjFk 15 f1 = 2) (hf2 : mjPutI (mjFk 15 f2) cm = true) (hm : Z.1.1 ≤ 90000) (hK : kdW Z kp) : ∃ Z2 Z3, qSr Z r 15 f1 (some pt) = some Z2 ∧ qI Z2.2 g 13 3 = some cm ∧ qSi Z2 r 15 f2 cm = some Z3 ∧ (∀ (s9 : Nat) (b9 : mjBb), wS x s9 L xs n Z b9 q → wS x s9 L xs n Z3 b9 q) ∧ kdW Z3 kp ∧ Z3.1 = Z.1 ∧ Z3.2.2.2.2 r = (15, 0) := by
  have d : ¬ g = r := fun e => by rw [e, hr] at hg; exact absurd (congrArg Prod.fst hg) (by decide)
  have dk : ¬ kp = r := fun e => by have := hK.1; rw [e, hr] at this; exact absurd (congrArg Prod.fst this) (by simp)
  have h2 : (mjSr Z.2 r f1 (some pt)).2.2.2 r = (15, 0) := hr
  refine ⟨_, _, qSr_of hr hf1, qI_of (M := mjSr Z.2 r f1 (some pt)) hg (by decide) hc, qSi_of (Z := (Z.1, mjSr Z.2 r f1 (some pt))) h2 hf2, fun s9 b9 h => wS_w (Z := (Z.1, mjSr Z.2 r f1 (some pt))) (wS_wr h hm hr) hm h2, ?_, rfl, hr⟩
  obtain ⟨k1, k2, k3, k4⟩ := hK
  refine ⟨k1, k2, k3, fun j => ?_⟩
  exact (if_neg dk).trans (k4 j)
set_option maxRecDepth 4000 in
theorem w_rule {k N : Nat} (h : wI x sb L xs Lg c a n Z b q) (hK : kdW Z kp) (hk : k ≤ 1) (hR : a.2.2.2.1 + (k + 1) ≤ 2) (hb : b.2.2.length ≤ 661) (hc : Z.1.1 ≤ 50000) (hq : q.1 ≤ 50000) : ∃ Z2 b2 q2 a2 c2, g197_init_h820 sg0 (N + 1) x 2000000 sb kp (i3 ((k + 1 : Nat) : Int)) Z = g197_init_h820 sg0 N x 2000000 sb kp (i3 (k : Nat)) Z2 ∧ wI x sb L xs Lg c2 a2 n Z2 b2 q2 ∧ kdW Z2 kp ∧ Z2.1.1 ≤ Z.1.1 + 20000 ∧ Z2.1.2 ≤ Z.1.2 + 1000000 ∧ q2.1 ≤ q.1 + 20000 ∧ b2.2.2.length ≤ 661 ∧ a2.1 = a.1 ∧ a2.2.2.2.1 ≤ a.2.2.2.1 + 1 ∧ a2.2.2.2.2 = a.2.2.2.2 ∧ c2 ≤ c + 1 := by
  have h' := h
  obtain ⟨h1, hT, hn, ⟨hF0, hF7⟩, ⟨r8, r9, r10, r11⟩, ⟨i0, i0b⟩, ⟨i1, i1b⟩, i2, i3'⟩ := h'
  have l0 := lns_5 _ _ _ hT
  have m0 : rmW 100 Z b q := ⟨by omega, by omega, by omega⟩
  have T0 := wX_rf h1
  obtain ⟨r, Z1, e1, k1, hr, ro, rr⟩ := t_new (c := (15, 0)) T0.1 (rw_wk m0 (by omega)) (by decide)
  have hr0 : 1000 + Z.1.1 ≤ r := by have := T0.2.2.1; omega
  have T1 := wX_tr T0 k1
  have m1 := rw_tr m0 T1 (N2 := 99) (by omega)
  have l1 := lw_x T1 l0
  obtain ⟨Z2, e2, T2, w2, c2⟩ := t_wo (j := 2) (v := -1) T1 (c90 T1 m0 (by omega)) ro (by unfold kpO; omega) hr0 rfl
  have e2 : qSi Z1 r 15 2 (-1) = some Z2 := e2
  have m2 := rw_tr m0 T2 (N2 := 99) (by omega)
  have l2 := lw_x T2 l0
  obtain ⟨kd, Z3, q3, hkd, e3, k3, f3⟩ := t_next (k := 5) T2.1 (rw_wk m2 (by omega)) (by omega)
  have e3 : g195_next sg0 x 5 Z2 = some (i3 (kd : Nat), Z3) := e3
  have T3 := wX_tr T2 k3
  have m3 := rw_tr m0 T3 (N2 := 98) (by omega)
  have l3 := lw_x T3 l0
  have rob3 := ob_x w2 (by unfold kpO; omega) k3
  obtain ⟨Z4, e4, T4, w4, c4⟩ := t_wo (j := 0) (v := i3 (kd : Nat)) T3 (c90 T3 m0 (by omega)) rob3 (by unfold kpO; omega) hr0 rfl
  have e4 : qSi Z3 r 15 0 (i3 (kd : Nat)) = some Z4 := e4
  have m4 := rw_tr m0 T4 (N2 := 98) (by omega)
  have l4 := lw_x T4 l0
  have e2' : g194_init sg0 r Z1 = some ((), Z2) := by
    unfold g194_init
    have e2'' : qSi Z1 r 15 2 (-1) = some Z2 := e2
    rw [e2'', mjBp_some]
  have e4' : qSi Z3 r 15 0 (i3 (kd : Nat)) = some Z4 := e4
  have K4 := rf_x hK (by unfold kpO; omega) T4
  obtain ⟨own, Z5, Z6, bo, e5, e6, hM6, hO6, tb, ne1, ne2, c6, c6', s6, kp6, kk6, cap6⟩ := w_own (s := 1000053) T4.1 (rw_wk m4 (by omega)) (by omega)
  have o6 := ob_k w4 (by unfold kpO; omega) c6' kp6
  have K6 := rf_k K4 (by unfold kpO; omega) c6' kp6
  have q3e : q3.2 = q.2 := f3
  have tl := T4.2.2.2.1
  have ts := T4.2.2.2.2.1
  have tq := T4.2.2.2.2.2.2.2.1
  have l53 : (txS 1000053).length = 6 := by decide
  have lo0 : 5 ≤ bo.2.2.length := by rw [tb]; omega
  have n0 : rmW 17000 Z6 bo q3 := ⟨by omega, by rw [tb, l53]; omega, by omega⟩
  have U0 := wX_rf hO6
  obtain ⟨Z11, b11, e11, k11⟩ := s_apC (N := 1) (c := 97 + a.2.2.2.1) U0.1 (rw_wk n0 (by omega)) (by omega) (by omega)
  have U11 := wX_tr U0 k11
  have n11 := rw_tr n0 U11 (N2 := 16999) (by omega)
  have lo11 := lw_x U11 lo0
  have rob11 := ob_x o6 (by unfold kpO; omega) k11
  have Kf11 := rf_x K6 (by unfold kpO; omega) k11
  obtain ⟨Z12, b12, e12, k12⟩ := s_apS (N := 1) (s := 1000042) U11.1 (rw_wk n11 (by omega)) (by omega) (by omega) (by decide)
  have U12 := wX_tr U11 k12
  have n12 := rw_tr n0 U12 (N2 := 16998) (by omega)
  have lo12 := lw_x U12 lo0
  have rob12 := ob_x rob11 (by unfold kpO; omega) k12
  have Kf12 := rf_x Kf11 (by unfold kpO; omega) k12
  have u12 : qI Z12.2 r 15 0 = some (i3 (kd : Nat)) := ob_I rob12 (by decide) rfl
  have v12 : qAa Z12.2 kp (i3 (kd : Nat)) = some (1000046 + kd) := kd_at Kf12 hkd
  have kx := kd_tx kd hkd
  obtain ⟨Z13, b13, e13, k13⟩ := s_apS (N := 6) (s := 1000046 + kd) U12.1 (rw_wk n12 (by omega)) (by omega) (by omega) kx
  have U13 := wX_tr U12 k13
  have n13 := rw_tr n0 U13 (N2 := 16992) (by omega)
  have lo13 := lw_x U13 lo0
  have rob13 := ob_x rob12 (by unfold kpO; omega) k13
  have Kf13 := rf_x Kf12 (by unfold kpO; omega) k13
  obtain ⟨Z14, b14, e14, k14⟩ := s_apS (N := 6) (s := 1000054) U13.1 (rw_wk n13 (by omega)) (by omega) (by omega) (by decide)
  have U14 := wX_tr U13 k14
  have n14 := rw_tr n0 U14 (N2 := 16986) (by omega)
  have lo14 := lw_x U14 lo0
  have rob14 := ob_x rob13 (by unfold kpO; omega) k14
  have Kf14 := rf_x Kf13 (by unfold kpO; omega) k14
  have x4k : (100 : Int32) + 100 * i3 ((k + 1 : Nat) : Int) = i3 ((100 + 100 * (k + 1) : Nat) : Int) := by
    rw [show (100 : Int32) = i3 100 from rfl, i3_mul, i3_add]
    congr 1
  obtain ⟨pt, g, Y1, Y2, Y3, bo3, w, cm, g1, g2, g3, g4, g5, g6, g7, g8, g9, g10⟩ := w_grow (at0 := 100 + 100 * (k + 1)) U14.1 (rw_wk n14 (by omega)) lo14 (by omega)
  have U15 := wX_tr U14 g5
  have n15 := rw_tr n0 U15 (N2 := 8000) (by omega)
  have K15 := rf_x Kf14 (by unfold kpO; omega) g5
  have r15 : Y3.2.2.2.2 r = (15, 0) := (ob_x rob14 (by unfold kpO; omega) g5).1
  have y15 : Y3.1.1 ≤ 90000 := by have := n15.1; omega
  have M15 : wS x sb L xs n Y3 b q3 ∧ b.1 ≠ bo3.1 := by
    obtain ⟨w1, w2⟩ := U15.2.2.2.2.2.2.2.2.2.1 sb b.1 b.2.1 b.2.2 hM6.1 ne1 ne2
    exact ⟨⟨w1, U15.1.2⟩, w2⟩
  obtain ⟨Y4, Y5, i4, i5, i6', i7, i8, i9, i10⟩ := w_fill (x := x) (L := L) (xs := xs) (n := n) (q := q3) (f1 := 3) (f2 := 1) (pt := pt) r15 g7 g8 rfl rfl y15 K15
  have hM5 := i7 sb b M15.1
  have hO5 := i7 own bo3 U15.1
  have tl15 := U15.2.2.2.1
  have ts15 := U15.2.2.2.2.1
  have tq15 := U15.2.2.2.2.2.2.2.1
  have cb3 : bo3.2.1 ≤ 40000 := U15.1.1.2.2.2.2.2.2.1
  have tx15 := U15.2.1
  rw [tb] at tx15
  simp only [List.append_assoc, ap_nl, List.append_nil] at tx15
  have r22 : r < 1000 + Y5.1.1 := by rw [i9]; have := o6.2.1; have := U15.2.2.1; omega
  have m5 : rmW 1 Y5 bo3 q3 := ⟨by rw [i9]; omega, by have := n15.2.1; omega, by have := n15.2.2; omega⟩
  obtain ⟨r2, Y6, q6, hr2, j1, j2, j3⟩ := t_next (k := 2) hO5 m5 (by omega)
  have j1' : g195_next sg0 x 2 Y5 = some (i3 (r2 : Nat), Y6) := j1
  have lbo3 : bo3.2.2.length ≤ 7700 := by
    have := U15.2.2.2.2.2.2.1
    rw [U15.2.1, List.length_append, tb, l53]
    omega
  have hM6' : wS x sb L xs n Y6 b q6 ∧ b.1 ≠ bo3.1 := by
    obtain ⟨w1, w2⟩ := j2.2.2.2.2.2.2.2.2.2.1 sb b.1 b.2.1 b.2.2 hM5.1 ne1 M15.2
    exact ⟨⟨w1, j2.1.2⟩, w2⟩
  have q6e : q6.2 = q.2 := by rw [j3, q3e]
  have hI6 := wI_mv h hM6'.1 q6e
  have K6' := rf_x i8 (by unfold kpO; omega) j2
  have r6 : Y6.2.2.2.2 r = (15, 0) := (j2.2.2.2.2.2.2.2.2.2.2 r r22).trans i10
  have r6' : r < 1000 + Y6.1.1 := by have := j2.2.2.1; omega
  have cl6 := j2.2.2.2.1
  have sl6 := j2.2.2.2.2.1
  have ql6 := j2.2.2.2.2.2.2.2.1
  have i91 : Y5.1.1 = Y3.1.1 := by rw [i9]
  have i92 : Y5.1.2 = Y3.1.2 := by rw [i9]
  have hRf : i3 ((k + 1 : Nat) : Int) + (-1) = i3 (k : Nat) := by rw [show (-1 : Int32) = i3 (-1) from rfl, i3_add]; congr 1; omega
  have pre : g197_init_h820 sg0 (N + 1) x 2000000 sb kp (i3 ((k + 1 : Nat) : Int)) Z = (if mjCmp .ne (i3 (r2 : Nat)) 0 = true then
        g197_init_j993 sg0 (g197_init_h820 sg0 N) x 2000000 sb kp (i3 ((k + 1 : Nat) : Int)) r own Y6
      else
        if mjRo Y6.2 own 19 = true then
        mjBq (g233_append sg0 own 1000055 Y6) fun v444 Z445 =>
        mjBq (qNew sg0 Z445 (13, 0)) fun v446 Z448 =>
        mjBq (g183_init sg0 v446 2000000 (150 + (100 * i3 ((k + 1 : Nat) : Int))) Z448) fun _ Z451 =>
        if mjRo Z451.2 v446 13 = true then
        mjBq (g192_tc sg0 v446 own 0 Z451) fun v454 Z455 =>
        mjBp (qSr Z455 r 15 4 (some v454)) fun Z456 =>
        mjBp (qI Z456.2 v446 13 3) fun v458 =>
        mjBp (qSi Z456 r 15 2 v458) fun Z460 =>
        g197_init_j993 sg0 (g197_init_h820 sg0 N) x 2000000 sb kp (i3 ((k + 1 : Nat) : Int)) r own Z460
        else none
        else none) := by
    rw [g197_init_h820, if_neg (by rw [show (0 : Int32) = i3 0 from rfl, c_le (by omega)]; omega), e1, mjBq_some, e2', mjBq_some, if_pos (wS_ro T2.1).2, e3, mjBq_some, e4', mjBp_some, e5, mjBq_some, e6, mjBq_some, wS_R hO6 rfl (by rw [q3e]; exact r11), mjBp_some, if_pos (by have := wT_ro hO6 (i := 3) (by omega); rw [q3e] at this; exact this), show g249_size (q.2.2.2 3).1 Z6 = some (i3 (a.2.2.2.1 : Nat)) from by (have := wS_sz hO6 (i := 3) (by omega); rw [q3e, i3'] at this; exact this), mjBp_some, if_pos (wS_ro U0.1).1, ch_i a.2.2.2.1 (by omega), e11, mjBq_some, if_pos (wS_ro U11.1).1, e12, mjBq_some, u12, mjBp_some, v12, mjBp_some, if_pos (wS_ro U12.1).1, e13, mjBq_some, if_pos (wS_ro U13.1).1, e14, mjBq_some, g1, mjBq_some, x4k, g2, mjBq_some, if_pos g3, g4, mjBq_some, i4, mjBp_some, i5, mjBp_some, i6', mjBp_some, if_pos (wS_ro j2.1 |> fun _ => (wS_ro hO5).2), j1', mjBq_some]
  rw [pre]
  by_cases z : r2 = 0
  · rw [if_neg (by rw [show (0 : Int32) = i3 0 from rfl, c_ne (by omega)]; omega), if_pos (wS_ro j2.1).1]
    have n16 : rmW 7700 Y6 bo3 q6 := ⟨by omega, by omega, by omega⟩
    obtain ⟨Y7, bo7, p1, p2⟩ := s_apS (N := 9) (s := 1000055) j2.1 (rw_wk n16 (by omega)) (by omega) (by omega) (by decide)
    have x5k : (150 : Int32) + 100 * i3 ((k + 1 : Nat) : Int) = i3 ((150 + 100 * (k + 1) : Nat) : Int) := by
      rw [show (100 : Int32) = i3 100 from rfl, show (150 : Int32) = i3 150 from rfl, i3_mul, i3_add]
      congr 1
    have lo3 : 5 ≤ bo3.2.2.length := by rw [tx15, List.length_append, l53]; omega
    obtain ⟨pt2, g', X1, X2, X3, bo8, w2, cm2, v1, v2, v3, v4, v5, v6, v7, v8, v9, v10⟩ := w_grow (at0 := 150 + 100 * (k + 1)) p2.1 (rw_tr n16 p2 (by omega)) (lw_x p2 lo3) (by omega)
    have V := wX_tr p2 v5
    have K16 := rf_x K6' (by unfold kpO; omega) V
    have r16 : X3.2.2.2.2 r = (15, 0) := (V.2.2.2.2.2.2.2.2.2.2 r r6').trans r6
    have tl16 := V.2.2.2.1
    have ts16 := V.2.2.2.2.1
    have tq16 := V.2.2.2.2.2.2.2.1
    have y16 : X3.1.1 ≤ 90000 := by omega
    have cb8 : bo8.2.1 ≤ 40000 := V.1.1.2.2.2.2.2.2.1
    have M16 : wS x sb L xs n X3 b q6 ∧ b.1 ≠ bo8.1 := by
      obtain ⟨w1, w2⟩ := V.2.2.2.2.2.2.2.2.2.1 sb b.1 b.2.1 b.2.2 hM6'.1.1 ne1 hM6'.2
      exact ⟨⟨w1, V.1.2⟩, w2⟩
    obtain ⟨X4, X5, s1, s2, s3, s4, s5, s6', s7⟩ := w_fill (x := x) (L := L) (xs := xs) (n := n) (q := q6) (f1 := 4) (f2 := 2) (pt := pt2) r16 v7 v8 rfl rfl y16 K16
    have s61 : X5.1.1 = X3.1.1 := by rw [s6']
    have s62 : X5.1.2 = X3.1.2 := by rw [s6']
    have hI9 := wI_mv hI6 (s4 sb b M16.1) rfl
    have tx8 : bo8.2.2 = rlT a.2.2.2.1 kd w (txS 1000055 ++ w2) := by
      rw [V.2.1, tx15]
      unfold rlT chW
      simp only [List.append_assoc]
    have lbo8 : bo8.2.2.length ≤ 16000 := by
      have := V.2.2.2.2.2.2.1
      rw [V.2.1, List.length_append]
      omega
    obtain ⟨F1, F2, F3, F4, F5, f1', f2', f3', f4', f5', f6', f7', f8', f9', f10', f11'⟩ := w_j993 (p := 2000000) hI9 s5 (s4 own bo8 V.1) ne1 M16.2 s7 (by have := V.2.2.1; omega) hb (by omega) (by omega) lbo8 tx8 (by omega) g6 (Or.inr ⟨w2, v6, rfl⟩) (by omega) (g197_init_h820 sg0 N) (i3 ((k + 1 : Nat) : Int))
    refine ⟨F1, F2, F3, F4, F5, ?_, f2', f3', by omega, by omega, by omega, f7', f8', f9', f10', f11'⟩
    rw [p1, mjBq_some, v1, mjBq_some, x5k, v2, mjBq_some, if_pos v3, v4, mjBq_some, s1, mjBp_some, s2, mjBp_some, s3, mjBp_some, f1', hRf]
  · rw [if_pos (by rw [show (0 : Int32) = i3 0 from rfl, c_ne (by omega)]; omega)]
    have tx9 : bo3.2.2 = rlT a.2.2.2.1 kd w [] := by
      rw [tx15]
      unfold rlT chW
      simp only [List.append_nil]
    obtain ⟨F1, F2, F3, F4, F5, f1', f2', f3', f4', f5', f6', f7', f8', f9', f10', f11'⟩ := w_j993 (p := 2000000) hI6 K6' j2.1 ne1 hM6'.2 r6 r6' hb (by omega) (by omega) (by omega) tx9 (by omega) g6 (Or.inl rfl) (by omega) (g197_init_h820 sg0 N) (i3 ((k + 1 : Nat) : Int))
    refine ⟨F1, F2, F3, F4, F5, ?_, f2', f3', by omega, by omega, by omega, f7', f8', f9', f10', f11'⟩
    rw [f1', hRf]
end WRL
