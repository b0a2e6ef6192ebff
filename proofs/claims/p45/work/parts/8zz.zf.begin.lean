/-! the World's constructor, whole -/
section WBE
variable {x sb tb L n N Lg : Nat} {xs : Nat → Int32} {Z Z2 Z3 : mjQ} {b b2 : mjBb} {q q2 q3 : mjV} {P : Nat → Prop}
def vk (Z : mjQ) (v tb : Nat) : Prop := Z.2.2.2.2 v = (19, 0) ∧ v < 1000 + Z.1.1 ∧ v ≠ tb ∧ Z.2.1 v 2 = i3 0 ∧ Z.2.1 v 3 = i3 0
theorem vk_frm {v : Nat} (h : vk Z v tb) (g : frm Z Z2 P) (hp : ¬ P v) : vk Z2 v tb := by
  obtain ⟨h1, h2, h3, h4, h5⟩ := h
  obtain ⟨x1, x2, x3⟩ := (g.2 v (Or.inl h2)).2 hp
  have := g.1
  exact ⟨x3.trans h1, by omega, h3, by rw [x1]; exact h4, by rw [x1]; exact h5⟩
theorem vk_ap {v v2 cap2 : Nat} {t2 : List Int32} (h : vk Z v tb) (hb : bS Z tb b.1 b.2.1 b.2.2) (a : apR Z tb b.1 b.2.1 Z2 v2 cap2 t2) : vk Z2 v tb := by
  refine vk_frm h a.2.2.1 (fun e => ?_)
  rcases e with e | e
  · exact h.2.2.1 e
  · have := h.1
    rw [e, hb.2.2.2.2.1] at this
    exact absurd (congrArg Prod.fst this) (by simp)
theorem s_apSk {s v : Nat} (h : wS x tb L xs n Z b q) (hv : vk Z v tb) (hm : rmW N Z b q) (hs : 1000000 ≤ s ∧ s < 1000059) (hN : 1 ≤ N) (hl : (txS s).length ≤ N) : ∃ Z2 b2, g233_append sg0 tb s Z = some (tb, Z2) ∧ wX x tb L xs n N Z b q n Z2 b2 q (txS s) ∧ vk Z2 v tb := by
  obtain ⟨m1, m2, m3⟩ := hm
  obtain ⟨Z2, v2, cap2, e1, r1⟩ := q_apS h.1 h.2.2.1 (by omega) hs (by omega)
  exact ⟨Z2, _, e1, s_ap h ⟨m1, m2, m3⟩ hN hl r1, vk_ap hv h.1 r1⟩
theorem s_apIk {z : Int} {v : Nat} (h : wS x tb L xs n Z b q) (hv : vk Z v tb) (hm : rmW N Z b q) (hz : -10000 < z ∧ z < 10000) (h5 : 5 ≤ b.2.2.length) (hN : 1 ≤ N) (hl : (decZ z).length ≤ N) : ∃ Z2 b2, g230_append sg0 tb (i3 z) Z = some (tb, Z2) ∧ wX x tb L xs n N Z b q n Z2 b2 q (decZ z) ∧ vk Z2 v tb := by
  obtain ⟨m1, m2, m3⟩ := hm
  obtain ⟨Z2, v2, cap2, e1, r1⟩ := q_apI h.1 (by omega) hz h5 (by omega)
  exact ⟨Z2, _, e1, s_ap h ⟨m1, m2, m3⟩ hN hl r1, vk_ap hv h.1 r1⟩
set_option maxRecDepth 4000 in
theorem w_j135 {le be af cu : Nat} (h : wA x L xs 4 Z q) (hx : Z.1.1 ≤ 100) (hs : Z.1.2 ≤ 10000) (hq : q.1 ≤ 100) (hLg : 2 ≤ Lg ∧ Lg ≤ 4) (hle : 50 ≤ le ∧ le ≤ 400) (hbe : be ≤ 20) (haf : af ≤ 20) (hcu : cu ≤ le) (F0 : q.2.1 0 = i3 (Lg : Nat)) (F1 : q.2.1 1 = i3 (le : Nat)) (F2 : q.2.1 2 = i3 (be : Nat)) (F3 : q.2.1 3 = i3 (af : Nat)) (F7 : q.2.1 7 = i3 ((0 : Nat) : Int)) (R8 : q.2.2.1 8 = some (q.2.2.2 0).1 ∧ q.2.2.1 9 = some (q.2.2.2 1).1 ∧ q.2.2.1 10 = some (q.2.2.2 2).1 ∧ q.2.2.1 11 = some (q.2.2.2 3).1) (I0 : (q.2.2.2 0).2.2 = [] ∧ (q.2.2.2 1).2.2 = [] ∧ (q.2.2.2 2).2.2 = [] ∧ (q.2.2.2 3).2.2 = []) : ∃ sb r Zf b2 q2, g197_init_j135 sg0 x 2000000 x (i3 (cu : Nat)) Z = g197_init_h229 sg0 mjF x 2000000 sb (i3 ((r + 1 : Nat) : Int)) Zf ∧ r < 3 ∧ wI x sb L xs Lg 0 ([], (fun _ => 0), 0, 0, false, false) 4 Zf b2 q2 ∧ b2.2.2.length ≤ 60 ∧ Zf.1.1 ≤ 200 ∧ Zf.1.2 ≤ 100000 ∧ q2.1 ≤ 110 := by
  obtain ⟨Z1, e1, h1, f1, c1⟩ := w_put (f := 4) (v := i3 (cu : Nat)) h (by omega) (by omega) rfl
  obtain ⟨q1, hq1⟩ : ∃ q1 : mjV, q1 = (q.1, (fun j => if j = 4 then i3 (cu : Nat) else q.2.1 j), q.2.2) := ⟨_, rfl⟩
  rw [← hq1] at h1
  have G4 : q1.2.1 4 = i3 (cu : Nat) := by
    rw [hq1]
    show (if (4 : Nat) = 4 then i3 (cu : Nat) else q.2.1 4) = _
    rw [if_pos rfl]
  have Go : ∀ j, j ≠ 4 → q1.2.1 j = q.2.1 j := fun j hj => by
    rw [hq1]
    show (if j = 4 then i3 (cu : Nat) else q.2.1 j) = _
    rw [if_neg hj]
  have Gr : q1.2.2 = q.2.2 := by rw [hq1]
  have Ga : q1.1 = q.1 := by rw [hq1]
  have k1 : Z1.1.1 = Z.1.1 := by rw [c1]
  have k1' : Z1.1.2 = Z.1.2 := by rw [c1]
  have hz : mjSzK (19, 0) ≤ 16 := by decide
  obtain ⟨Z2, e2, f2, c2, kd2, z2, -⟩ := w_new (Z := Z1) (c := (19, 0)) (by omega)
  have k2 : Z2.1.1 = Z1.1.1 + 1 := by rw [c2]
  have k2' : Z2.1.2 = Z1.1.2 + mjSzK (19, 0) := by rw [c2]
  obtain ⟨Z3, e3, f3, c3, kd3, z3, -⟩ := w_new (Z := Z2) (c := (19, 0)) (by omega)
  have k3 : Z3.1.1 = Z2.1.1 + 1 := by rw [c3]
  have k3' : Z3.1.2 = Z2.1.2 + mjSzK (19, 0) := by rw [c3]
  have v3 : vk Z3 (1000 + Z1.1.1) (1000 + Z2.1.1) := vk_frm ⟨kd2, by omega, by omega, z2 2, z2 3⟩ f3 (fun e => e)
  obtain ⟨Z4, e4, B4, f4, c4⟩ := q_init0 kd3 (by omega) (z3 2) (z3 3) (by omega)
  have k4 : Z4.1.1 = Z3.1.1 + 1 := by rw [c4]
  have k4' : Z4.1.2 = Z3.1.2 + 16 := by rw [c4]
  have v4 : vk Z4 (1000 + Z1.1.1) (1000 + Z2.1.1) := vk_frm v3 f4 (fun e => by have e9 : 1000 + Z1.1.1 = 1000 + Z2.1.1 := e; omega)
  have h4 := wA_frm (wA_frm (wA_frm h1 (by omega) f2 (fun a e => e.elim)) (by omega) f3 (fun a e => e.elim)) (by omega) f4 (fun a e => by have e9 : a = 1000 + Z2.1.1 := e; rw [e9, kd3]; decide)
  have w4 : wS x (1000 + Z2.1.1) L xs 4 Z4 (1000 + Z3.1.1, 16, []) q1 := ⟨B4, h4⟩
  have m4 : rmW 100 Z4 (1000 + Z3.1.1, 16, []) q1 := ⟨by omega, by show 0 + 100 ≤ 18000; omega, by omega⟩
  have T4 := wX_rf w4
  obtain ⟨Z5, b5, e5, k5, v5⟩ := s_apSk (N := 6) (s := 1000041) T4.1 v4 (rw_wk m4 (by omega)) (by omega) (by omega) (by decide)
  have T5 := wX_tr T4 k5
  have m5 := rw_tr m4 T5 (N2 := 94) (by omega)
  have l5 : 5 ≤ b5.2.2.length := by rw [T5.2.1]; show 5 ≤ ([] ++ ([] ++ txS 1000041)).length; decide
  have u6 : qI Z5.2 x 16 0 = some (i3 (Lg : Nat)) := wS_F T5.1 (by omega) (by decide) (by rw [Go 0 (by omega)]; exact F0)
  obtain ⟨Z6, b6, e6, k6, v6⟩ := s_apIk (N := 4) (z := ((Lg : Nat) : Int)) T5.1 v5 (rw_wk m5 (by omega)) (by omega) l5 (by omega) (dZ_len (by omega))
  have T6 := wX_tr T5 k6
  have m6 := rw_tr m4 T6 (N2 := 90) (by omega)
  have l6 := lw_x k6 l5
  obtain ⟨Z7, b7, e7, k7, v7⟩ := s_apSk (N := 1) (s := 1000042) T6.1 v6 (rw_wk m6 (by omega)) (by omega) (by omega) (by decide)
  have T7 := wX_tr T6 k7
  have m7 := rw_tr m4 T7 (N2 := 89) (by omega)
  have l7 := lw_x k7 l6
  have u8 : qI Z7.2 x 16 1 = some (i3 (le : Nat)) := wS_F T7.1 (by omega) (by decide) (by rw [Go 1 (by omega)]; exact F1)
  obtain ⟨Z8, b8, e8, k8, v8⟩ := s_apIk (N := 4) (z := ((le : Nat) : Int)) T7.1 v7 (rw_wk m7 (by omega)) (by omega) l7 (by omega) (dZ_len (by omega))
  have T8 := wX_tr T7 k8
  have m8 := rw_tr m4 T8 (N2 := 85) (by omega)
  have l8 := lw_x k8 l7
  obtain ⟨Z9, b9, e9, k9, v9⟩ := s_apSk (N := 1) (s := 1000042) T8.1 v8 (rw_wk m8 (by omega)) (by omega) (by omega) (by decide)
  have T9 := wX_tr T8 k9
  have m9 := rw_tr m4 T9 (N2 := 84) (by omega)
  have l9 := lw_x k9 l8
  have u10 : qI Z9.2 x 16 2 = some (i3 (be : Nat)) := wS_F T9.1 (by omega) (by decide) (by rw [Go 2 (by omega)]; exact F2)
  obtain ⟨Z10, b10, e10, k10, v10⟩ := s_apIk (N := 4) (z := ((be : Nat) : Int)) T9.1 v9 (rw_wk m9 (by omega)) (by omega) l9 (by omega) (dZ_len (by omega))
  have T10 := wX_tr T9 k10
  have m10 := rw_tr m4 T10 (N2 := 80) (by omega)
  have l10 := lw_x k10 l9
  obtain ⟨Z11, b11, e11, k11, v11⟩ := s_apSk (N := 1) (s := 1000042) T10.1 v10 (rw_wk m10 (by omega)) (by omega) (by omega) (by decide)
  have T11 := wX_tr T10 k11
  have m11 := rw_tr m4 T11 (N2 := 79) (by omega)
  have l11 := lw_x k11 l10
  have u12 : qI Z11.2 x 16 3 = some (i3 (af : Nat)) := wS_F T11.1 (by omega) (by decide) (by rw [Go 3 (by omega)]; exact F3)
  obtain ⟨Z12, b12, e12, k12, v12⟩ := s_apIk (N := 4) (z := ((af : Nat) : Int)) T11.1 v11 (rw_wk m11 (by omega)) (by omega) l11 (by omega) (dZ_len (by omega))
  have T12 := wX_tr T11 k12
  have m12 := rw_tr m4 T12 (N2 := 75) (by omega)
  have l12 := lw_x k12 l11
  obtain ⟨Z13, b13, e13, k13, v13⟩ := s_apSk (N := 1) (s := 1000042) T12.1 v12 (rw_wk m12 (by omega)) (by omega) (by omega) (by decide)
  have T13 := wX_tr T12 k13
  have m13 := rw_tr m4 T13 (N2 := 74) (by omega)
  have l13 := lw_x k13 l12
  have u14 : qI Z13.2 x 16 4 = some (i3 (cu : Nat)) := wS_F T13.1 (by omega) (by decide) G4
  obtain ⟨Z14, b14, e14, k14, v14⟩ := s_apIk (N := 4) (z := ((cu : Nat) : Int)) T13.1 v13 (rw_wk m13 (by omega)) (by omega) l13 (by omega) (dZ_len (by omega))
  have T14 := wX_tr T13 k14
  have m14 := rw_tr m4 T14 (N2 := 70) (by omega)
  have l14 := lw_x k14 l13
  obtain ⟨Z15, b15, e15, k15, v15⟩ := s_apSk (N := 1) (s := 1000043) T14.1 v14 (rw_wk m14 (by omega)) (by omega) (by omega) (by decide)
  have T15 := wX_tr T14 k15
  have m15 := rw_tr m4 T15 (N2 := 69) (by omega)
  have l15 := lw_x k15 l14
  have tx := T15.2.1
  simp only [List.append_assoc, ap_nl, List.append_nil] at tx
  have cl := T15.2.2.2.1
  have sl := T15.2.2.2.2.1
  have ln := T15.2.2.2.2.2.2.1
  have cb : b15.2.1 ≤ 40000 := T15.1.1.2.2.2.2.2.2.1
  have sl2 : Z15.1.2 + 2 * 16 ≤ Z4.1.2 + 2 * b15.2.1 + 16 * 100 := by
    have : Z15.1.2 + 2 * 16 ≤ Z4.1.2 + 2 * b15.2.1 + 16 * _ := sl
    omega
  have lb : b15.2.2.length ≤ 60 := by
    rw [T15.2.1, List.length_append]
    show 0 + _ ≤ 60
    omega
  obtain ⟨Y1, y1, y2, y3, y4⟩ := q_toS T15.1.1 (by omega)
  have ky : Y1.1.1 = Z15.1.1 + 2 := by rw [y4]
  have ky' : Y1.1.2 = Z15.1.2 + 4 + b15.2.2.length := by rw [y4]
  have vy := vk_frm v15 y3 (fun e => e)
  have hy := wA_frm T15.1.2 (by omega) y3 (fun a e => e.elim)
  obtain ⟨Y2, v2, cap2, y5, y6, y7, y8, y9, y10, y11⟩ := q_initM vy.1 vy.2.1 vy.2.2.2.1 vy.2.2.2.2 y2 (by omega) (by omega)
  have hy2 := wA_frm hy (by omega) y7 (fun a e => by have e9 : a = 1000 + Z1.1.1 := e; rw [e9, vy.1]; decide)
  have w2 : wS x (1000 + Z1.1.1) L xs 4 Y2 (v2, cap2, b15.2.2) q1 := ⟨y6, hy2⟩
  have m2 : rmW 5 Y2 (v2, cap2, b15.2.2) q1 := ⟨by omega, by show b15.2.2.length + 5 ≤ 18000; omega, by omega⟩
  obtain ⟨r, Y3, q3, hr, j1, j2, j3⟩ := t_next (k := 3) w2 (rw_wk m2 (by omega)) (by omega)
  have j1' : g195_next sg0 x 3 Y2 = some (i3 (r : Nat), Y3) := j1
  have q3r : q3.2.2 = q.2.2 := by rw [j3, Gr]
  refine ⟨1000 + Z1.1.1, r, Y3, (v2, cap2, b15.2.2), q3, ?_, hr, ⟨j2.1, ⟨rfl, hLg.1, hLg.2, le, be, af, cu, hle.1, hle.2, hbe, haf, hcu, tx⟩, rfl, ⟨by rw [j3, Go 0 (by omega)]; exact F0, by rw [j3, Go 7 (by omega)]; exact F7⟩, by rw [q3r]; exact R8, ⟨by rw [q3r]; exact I0.1, fun j hj => absurd hj (Nat.not_lt_zero _)⟩, ⟨by rw [q3r, I0.2.1] <;> rfl, fun k hk => absurd hk (Nat.not_lt_zero _)⟩, by rw [q3r, I0.2.2.1] <;> rfl, by rw [q3r, I0.2.2.2] <;> rfl⟩, lb, by have := j2.2.2.2.1; omega, ?_, by have := j2.2.2.2.2.2.2.2.1; omega⟩
  · unfold g197_init_j135
    rw [e1, mjBp_some, e2, mjBq_some, e3, mjBq_some, e4, mjBq_some, if_pos (wS_ro T4.1).1, e5, mjBq_some, u6, mjBp_some, if_pos (wS_ro T5.1).1, e6, mjBq_some, if_pos (wS_ro T6.1).1, e7, mjBq_some, u8, mjBp_some, if_pos (wS_ro T7.1).1, e8, mjBq_some, if_pos (wS_ro T8.1).1, e9, mjBq_some, u10, mjBp_some, if_pos (wS_ro T9.1).1, e10, mjBq_some, if_pos (wS_ro T10.1).1, e11, mjBq_some, u12, mjBp_some, if_pos (wS_ro T11.1).1, e12, mjBq_some, if_pos (wS_ro T12.1).1, e13, mjBq_some, u14, mjBp_some, if_pos (wS_ro T13.1).1, e14, mjBq_some, if_pos (wS_ro T14.1).1, e15, mjBq_some, if_pos (wS_ro T15.1).1, y1, mjBq_some, y5, mjBq_some, if_pos (wS_ro w2).2, j1', mjBq_some, show (1 : Int32) + i3 (r : Nat) = i3 ((r + 1 : Nat) : Int) from by rw [show (1 : Int32) = i3 1 from rfl, i3_add]; congr 1; omega]
  · have : Y3.1.2 + 2 * cap2 ≤ Y2.1.2 + 2 * cap2 + 16 * 1 := j2.2.2.2.2.1
    omega
end WBE
