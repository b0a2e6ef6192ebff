/-! the acts' lines -/
def kdW (Z : mjQ) (p : Nat) : Prop := rfO (120, 5) Z p (fun j => if j < 5 then some (1000046 + j) else none)
section WAC
variable {x sb L n Lg c kp : Nat} {xs : Nat → Int32} {Z : mjQ} {b : mjBb} {q : mjV} {a : mjK} {p : Nat}
theorem kd_at {k : Nat} (h : kdW Z kp) (hk : k < 5) : qAa Z.2 kp (i3 (k : Nat)) = some (1000046 + k) := rf_Aa h hk (by omega) (if_pos hk)
/-- an act's line from its other on -/
theorem w_act {kd tm te0 : Nat} {ot : Int} {pa N0 : Nat} {Zs : mjQ} {qs : mjV} {f : Nat → Int32} (h : wI x sb L xs Lg c a n Z b q) (hm : rmW 70 Z b q) (hK : kdW Z kp) (T0 : wX x sb L xs n N0 Z b q n Zs b qs []) (hN0 : N0 ≤ 10) (hq1 : qs.2 = q.2) (hp : obO (12, 0) Zs pa f) (hpa0 : 1000 + Z.1.1 ≤ pa) (hkd : kd ≤ 3) (hk0 : f 0 = i3 (kd : Nat)) (hk1 : f 1 = i3 (tm : Nat)) (htm : tm < a.1.length) (ha3 : a.1.length ≤ 3) (hot : (kd = 3 ∧ 0 ≤ ot ∧ ot < a.1.length ∧ ot ≠ tm) ∨ (kd ≠ 3 ∧ ot = -1)) (hac : a.2.2.1 < 8) (R : Nat → Nat → Nat → Nat → Int32 → mjQ → Option (Unit × mjQ)) (w : Int32) : ∃ Z2 b2 q2 u, g197_init_j665 sg0 R x p sb kp w pa pa (i3 ot) Zs = R x p sb kp (w + (-1)) Z2 ∧ wX x sb L xs n 70 Z b q n Z2 b2 q2 u ∧ wI x sb L xs Lg (c + 1) (a.1, a.2.1, a.2.2.1 + 1, a.2.2.2) n Z2 b2 q2 := by
  have h' := h
  obtain ⟨h1, hT, hn, ⟨hF0, hF7⟩, ⟨r8, r9, r10, r11⟩, ⟨i0, i0b⟩, ⟨i1, i1b⟩, i2, i3'⟩ := h'
  have l0 := lns_5 _ _ _ hT
  have K0 := rf_x hK (by unfold kpO; omega) T0
  have m0 := hm
  have m00 := rw_tr hm T0 (N2 := 60) (by omega)
  obtain ⟨Z1, e1, T1, w1, c1⟩ := t_wo (j := 2) (v := i3 ot) T0 (c90 T0 m0 (by omega)) hp (by unfold kpO; omega) hpa0 rfl
  have e1 : qSi Zs pa 12 2 (i3 ot) = some Z1 := e1
  have m1 := rw_tr m0 T1 (N2 := 60) (by omega)
  have l1 := lw_x T1 l0
  obtain ⟨te, Z2, q2, hte, e2, k2, f2⟩ := t_next (k := 400) T1.1 (rw_wk m1 (by omega)) (by omega)
  have e2 : g195_next sg0 x 400 Z1 = some (i3 (te : Nat), Z2) := e2
  have T2 := wX_tr T1 k2
  have m2 := rw_tr m0 T2 (N2 := 59) (by omega)
  have l2 := lw_x T2 l0
  have paob2 := ob_x w1 (by unfold kpO; omega) k2
  obtain ⟨Z3, e3, T3, w3, c3⟩ := t_wo (j := 3) (v := i3 (te : Nat)) T2 (c90 T2 m0 (by omega)) paob2 (by unfold kpO; omega) hpa0 rfl
  have e3 : qSi Z2 pa 12 3 (i3 (te : Nat)) = some Z3 := e3
  have m3 := rw_tr m0 T3 (N2 := 59) (by omega)
  have l3 := lw_x T3 l0
  obtain ⟨sz, Z4, q4, hsz, e4, k4, f4⟩ := t_next (k := 20) T3.1 (rw_wk m3 (by omega)) (by omega)
  have e4 : g195_next sg0 x 20 Z3 = some (i3 (sz : Nat), Z4) := e4
  have T4 := wX_tr T3 k4
  have m4 := rw_tr m0 T4 (N2 := 58) (by omega)
  have l4 := lw_x T4 l0
  have paob4 := ob_x w3 (by unfold kpO; omega) k4
  obtain ⟨Z5, e5, T5, w5, c5⟩ := t_wo (j := 4) (v := i3 (sz : Nat)) T4 (c90 T4 m0 (by omega)) paob4 (by unfold kpO; omega) hpa0 rfl
  have e5 : qSi Z4 pa 12 4 (i3 (sz : Nat)) = some Z5 := e5
  have m5 := rw_tr m0 T5 (N2 := 58) (by omega)
  have l5 := lw_x T5 l0
  obtain ⟨Z6, b6, e6, k6⟩ := s_apS (N := 4) (s := 1000051) T5.1 (rw_wk m5 (by omega)) (by omega) (by omega) (by decide)
  have T6 := wX_tr T5 k6
  have m6 := rw_tr m0 T6 (N2 := 54) (by omega)
  have l6 := lw_x T6 l0
  have paob6 := ob_x w5 (by unfold kpO; omega) k6
  have a0 : ∀ (g : Nat → Int32), (fun i : Nat => if i = 4 then i3 (sz : Nat) else if i = 3 then i3 (te : Nat) else if i = 2 then i3 ot else f i) = g → True := fun _ _ => trivial
  have kx := kd_tx kd (by omega)
  have v6 : qAa Z6.2 kp (i3 (kd : Nat)) = some (1000046 + kd) := kd_at (rf_x hK (by unfold kpO; omega) T6) (by omega)
  have u6 : qI Z6.2 pa 12 0 = some (i3 (kd : Nat)) := ob_I paob6 (by decide) hk0
  obtain ⟨Z7, b7, e7, k7⟩ := s_apS (N := 6) (s := 1000046 + kd) T6.1 (rw_wk m6 (by omega)) (by omega) (by omega) kx
  have T7 := wX_tr T6 k7
  have m7 := rw_tr m0 T7 (N2 := 48) (by omega)
  have l7 := lw_x T7 l0
  have paob7 := ob_x paob6 (by unfold kpO; omega) k7
  obtain ⟨Z8, b8, e8, k8⟩ := s_apS (N := 2) (s := 1000052) T7.1 (rw_wk m7 (by omega)) (by omega) (by omega) (by decide)
  have T8 := wX_tr T7 k8
  have m8 := rw_tr m0 T8 (N2 := 46) (by omega)
  have l8 := lw_x T8 l0
  have paob8 := ob_x paob7 (by unfold kpO; omega) k8
  have u8 : qI Z8.2 pa 12 1 = some (i3 (tm : Nat)) := ob_I paob8 (by decide) hk1
  obtain ⟨Z9, b9, e9, k9⟩ := s_apC (N := 1) (c := 97 + tm) T8.1 (rw_wk m8 (by omega)) (by omega) (by omega)
  have T9 := wX_tr T8 k9
  have m9 := rw_tr m0 T9 (N2 := 45) (by omega)
  have l9 := lw_x T9 l0
  have paob9 := ob_x paob8 (by unfold kpO; omega) k9
  have u9 : qI Z9.2 pa 12 2 = some (i3 ot) := ob_I paob9 (by decide) rfl
  have q9e : q4.2 = q.2 := by rw [f4, f2]; exact hq1
  have rest : ∀ (Y : mjQ) (bY : mjBb) (NY : Nat) (fo : Nat → Int32) (uo : List Int32), wX x sb L xs n NY Z b q n Y bY q4 (txS 1000051 ++ (txS (1000046 + kd) ++ (txS 1000052 ++ (chW tm ++ uo)))) → NY ≤ 45 → obO (12, 0) Y pa fo → fo 3 = i3 (te : Nat) → fo 4 = i3 (sz : Nat) → uo = (if kd = 3 then txS 1000052 ++ chW ot.toNat else []) → ∃ Z2 b2 q2 u, g197_init_j752 sg0 R x p sb kp w pa Y = R x p sb kp (w + (-1)) Z2 ∧ wX x sb L xs n 70 Z b q n Z2 b2 q2 u ∧ wI x sb L xs Lg (c + 1) (a.1, a.2.1, a.2.2.1 + 1, a.2.2.2) n Z2 b2 q2 := by
    intro Y bY NY fo uo TY hNY oY f3 f4' huo
    have mY := rw_tr m0 TY (N2 := 25) (by omega)
    have lY := lw_x TY l0
    obtain ⟨Z21, b21, e21, k21⟩ := s_apS (N := 1) (s := 1000042) TY.1 (rw_wk mY (by omega)) (by omega) (by omega) (by decide)
    have T21 := wX_tr TY k21
    have m21 := rw_tr m0 T21 (N2 := 24) (by omega)
    have l21 := lw_x T21 l0
    have paob21 := ob_x oY (by unfold kpO; omega) k21
    have u21 : qI Z21.2 pa 12 3 = some (i3 (te : Nat)) := ob_I paob21 (by decide) f3
    obtain ⟨Z22, b22, e22, k22⟩ := s_apI (N := 4) (z := ((te : Nat) : Int)) T21.1 (rw_wk m21 (by omega)) (by omega) l21 (by omega) (dZ_len (by omega))
    have T22 := wX_tr T21 k22
    have m22 := rw_tr m0 T22 (N2 := 20) (by omega)
    have l22 := lw_x T22 l0
    have paob22 := ob_x paob21 (by unfold kpO; omega) k22
    obtain ⟨Z23, b23, e23, k23⟩ := s_apS (N := 1) (s := 1000042) T22.1 (rw_wk m22 (by omega)) (by omega) (by omega) (by decide)
    have T23 := wX_tr T22 k23
    have m23 := rw_tr m0 T23 (N2 := 19) (by omega)
    have l23 := lw_x T23 l0
    have paob23 := ob_x paob22 (by unfold kpO; omega) k23
    have u23 : qI Z23.2 pa 12 4 = some (i3 (sz : Nat)) := ob_I paob23 (by decide) f4'
    obtain ⟨Z24, b24, e24, k24⟩ := s_apI (N := 4) (z := ((sz : Nat) : Int)) T23.1 (rw_wk m23 (by omega)) (by omega) l23 (by omega) (dZ_len (by omega))
    have T24 := wX_tr T23 k24
    have m24 := rw_tr m0 T24 (N2 := 15) (by omega)
    have l24 := lw_x T24 l0
    have paob24 := ob_x paob23 (by unfold kpO; omega) k24
    obtain ⟨Z25, b25, e25, k25⟩ := s_apS (N := 1) (s := 1000043) T24.1 (rw_wk m24 (by omega)) (by omega) (by omega) (by decide)
    have T25 := wX_tr T24 k25
    have m25 := rw_tr m0 T25 (N2 := 14) (by omega)
    have l25 := lw_x T25 l0
    have paob25 := ob_x paob24 (by unfold kpO; omega) k25
    have ia : (q4.2.2.2 2).2.2 = (q.2.2.2 2).2.2 := by rw [q9e]
    obtain ⟨Z26, q26, e26, k26, f26, g26, i26, j26, t26⟩ := t_add (i := 2) (e := pa) T25.1 (rw_wk m25 (by omega)) (by omega) (Or.inl (ks_of paob25.1)) (Or.inl paob25.2.1) (by rw [ia, i2]; omega)
    have T26 := wX_tr T25 k26
    have m26 := rw_tr m0 T26 (N2 := 13) (by omega)
    have l26 := lw_x T26 l0
    have paob26 := ob_x paob25 (by unfold kpO; omega) k26
    have y3 : q26.2.1 = q.2.1 := by rw [f26, q9e]
    have y4 : q26.2.2.1 = q.2.2.1 := by rw [g26, q9e]
    have y5 : q26.2.1 7 + 1 = i3 ((c + 1 : Nat) : Int) := by rw [y3, hF7, i3_s]
    obtain ⟨Z27, q27, e27, k27, f27, g27, i27⟩ := t_put (f := 7) (v := q26.2.1 7 + 1) T26.1 (rw_wk m26 (by omega)) (by omega) rfl
    have T27 := wX_tr T26 k27
    have m27 := rw_tr m0 T27 (N2 := 13) (by omega)
    have l27 := lw_x T27 l0
    have paob27 := ob_x paob26 (by unfold kpO; omega) k27
    have tot := T27
    have tx := tot.2.1
    simp only [List.append_assoc, ap_nl, List.append_nil] at tot tx
    rw [huo] at tot tx
    have lt : lnAc a (a.1, a.2.1, a.2.2.1 + 1, a.2.2.2) (txS 1000051 ++ (txS (1000046 + kd) ++ (txS 1000052 ++ (chW tm ++ ((if kd = 3 then txS 1000052 ++ chW ot.toNat else []) ++ (txS 1000042 ++ (decZ ((te : Nat) : Int) ++ (txS 1000042 ++ (decZ ((sz : Nat) : Int) ++ txS 1000043))))))))) := ⟨kd, tm, ot.toNat, te, sz, hkd, htm, fun e => by omega, by omega, by omega, by omega, rfl, rfl⟩
    have z0 : ∀ j, j ≠ 2 → q27.2.2.2 j = q.2.2.2 j := fun j d1 => by rw [i27]; rw [t26 j d1, q9e]
    have z1 : ∀ j, (q27.2.2.2 j).1 = (q.2.2.2 j).1 := fun j => by rw [i27]; rw [j26, q9e]
    refine ⟨_, _, q27, _, ?_, wX_wk tot (by omega), tot.1, ⟨a, b.2.2, _, hT, Or.inr (Or.inr (Or.inl lt)), tx⟩, hn, ⟨?_, ?_⟩, ⟨?_, ?_, ?_, ?_⟩, ⟨?_, i0b⟩, ⟨?_, ?_⟩, ?_, ?_⟩
    · unfold g197_init_j752
      have e26' := e26
      rw [show (q4.2.2.2 2).1 = (q.2.2.2 2).1 from by rw [q9e]] at e26'
      rw [if_pos (wS_ro TY.1).1, e21, mjBq_some, u21, mjBp_some, if_pos (wS_ro T21.1).1, e22, mjBq_some, if_pos (wS_ro T22.1).1, e23, mjBq_some, u23, mjBp_some, if_pos (wS_ro T23.1).1, e24, mjBq_some, if_pos (wS_ro T24.1).1, e25, mjBq_some, wS_R T25.1 rfl (by rw [q9e]; exact r10), mjBp_some, if_pos (by have := wT_ro T25.1 (i := 2) (by omega); rw [q9e] at this; exact this), e26', mjBq_some, wS_F T26.1 (by omega) (by decide) rfl, mjBp_some, e27, mjBp_some]
    · rw [g27 0 (by omega), y3]; exact hF0
    · rw [f27]; exact y5
    · rw [i27, y4, j26, q9e]; exact r8
    · rw [i27, y4, j26, q9e]; exact r9
    · rw [i27, y4, j26, q9e]; exact r10
    · rw [i27, y4, j26, q9e]; exact r11
    · rw [z0 0 (by omega)]; exact i0
    · rw [z0 1 (by omega)]; exact i1
    · intro j hj
      rw [z0 1 (by omega), z1, z0 (4 + j) (by omega)]
      exact i1b j hj
    · rw [i27, i26, ia, List.length_append, i2]; rfl
    · rw [z0 3 (by omega)]; exact i3'
  have tot9 := T9
  simp only [List.append_assoc, ap_nl, List.append_nil] at tot9
  have e0 : g197_init_j665 sg0 R x p sb kp w pa pa (i3 ot) Zs = (if mjCmp .lt (i3 ot) 0 = true then g197_init_j752 sg0 R x p sb kp w pa Z9 else if mjRo Z9.2 sb 19 = true then mjBq (g233_append sg0 sb 1000052 Z9) fun v565 Z566 => mjBp (qI Z566.2 pa 12 2) fun v567 => if mjRo Z566.2 v565 19 = true then mjBq (g229_append sg0 v565 (((97 + v567).toUInt32 % 65536).toInt32) Z566) fun v571 Z572 => g197_init_j752 sg0 R x p sb kp w pa Z572 else none else none) := by
    unfold g197_init_j665
    rw [e1, mjBp_some, if_pos (wS_ro T1.1).2, e2, mjBq_some, e3, mjBp_some, if_pos (wS_ro T3.1).2, e4, mjBq_some, e5, mjBp_some, if_pos (wS_ro T5.1).1, e6, mjBq_some, u6, mjBp_some, v6, mjBp_some, if_pos (wS_ro T6.1).1, e7, mjBq_some, if_pos (wS_ro T7.1).1, e8, mjBq_some, u8, mjBp_some, if_pos (wS_ro T8.1).1, ch_i tm (by omega), e9, mjBq_some, u9, mjBp_some]
  rw [e0]
  by_cases e3 : kd = 3
  · rw [if_neg (by rw [show (0 : Int32) = i3 0 from rfl, c_lt (by omega)]; omega)]
    obtain ⟨t9, ht9⟩ : ∃ t9 : Nat, ot = ((t9 : Nat) : Int) := ⟨ot.toNat, by omega⟩
    obtain ⟨Z11, b11, e11, k11⟩ := s_apS (N := 2) (s := 1000052) T9.1 (rw_wk m9 (by omega)) (by omega) (by omega) (by decide)
    have T11 := wX_tr T9 k11
    have m11 := rw_tr m0 T11 (N2 := 43) (by omega)
    have l11 := lw_x T11 l0
    have paob11 := ob_x paob9 (by unfold kpO; omega) k11
    have u11 : qI Z11.2 pa 12 2 = some (i3 ((t9 : Nat) : Int)) := ob_I paob11 (by decide) (by rw [← ht9]; rfl)
    obtain ⟨Z12, b12, e12, k12⟩ := s_apC (N := 1) (c := 97 + t9) T11.1 (rw_wk m11 (by omega)) (by omega) (by omega)
    have T12 := wX_tr T11 k12
    have m12 := rw_tr m0 T12 (N2 := 42) (by omega)
    have l12 := lw_x T12 l0
    have paob12 := ob_x paob11 (by unfold kpO; omega) k12
    have tot12 := T12
    simp only [List.append_assoc, ap_nl, List.append_nil] at tot12
    obtain ⟨Z2, b2, q2, u, s1, s2, s3⟩ := rest _ _ _ _ (txS 1000052 ++ chW t9) tot12 (by omega) paob12 rfl rfl (by rw [if_pos e3, ht9, Int.toNat_natCast])
    refine ⟨Z2, b2, q2, u, ?_, s2, s3⟩
    rw [if_pos (wS_ro T9.1).1, e11, mjBq_some, u11, mjBp_some, if_pos (wS_ro T11.1).1, ch_i t9 (by omega), e12, mjBq_some]
    exact s1
  · rw [if_pos (by rw [show (0 : Int32) = i3 0 from rfl, c_lt (by omega)]; omega)]
    obtain ⟨Z2, b2, q2, u, s1, s2, s3⟩ := rest _ _ _ _ [] (by rw [List.append_nil]; exact tot9) (by omega) paob9 rfl rfl (by rw [if_neg e3])
    exact ⟨Z2, b2, q2, u, s1, s2, s3⟩
end WAC
