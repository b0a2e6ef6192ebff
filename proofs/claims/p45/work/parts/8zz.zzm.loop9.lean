/-! the law's loop-/
section LO9
variable {sg : Nat → Nat} {W : mjWt} {Zc Y : mjZt} {n : Nat × Nat} {v x T b N U L : Nat} {xs : Nat → Int32} {S S0 : mjS} {E : Nat → Nat → Int}
def tmI (W : mjWt) (Zc : mjZt) (x T : Nat) : Prop := 251 ≤ x ∧ W.2 x = (16, 0) ∧ ∃ l, W.1 x 8 = some l ∧ 251 ≤ l ∧ W.2 l = (20, 0) ∧ Zc.1 l 2 = i3 (T : Nat)
theorem tmI_9 (h : tmI W Zc x T) (e : fr9 Zc Y) : tmI W Y x T := by
  obtain ⟨h1, h2, l, h3, h4, h5, h6⟩ := h
  exact ⟨h1, h2, l, h3, h4, h5, by rw [e l h4]; exact h6⟩
theorem x_teams (h : tmI W Zc x T) : g196_teams x (n, mjVw W Zc) = some (i3 (T : Nat)) ∧ mjRo (mjVw W Zc) x 16 = true := by
  obtain ⟨h1, h2, l, h3, h4, h5, h6⟩ := h
  have k1 : mjKs (mjVw W Zc) x 16 = true := by
    unfold mjKs
    rw [(vw_k h1).1, h2]; rfl
  have k2 : mjKs (mjVw W Zc) l 20 = true := by
    unfold mjKs
    rw [(vw_k h4).1, h5]; rfl
  have r1 : (mjVw W Zc).2.2.1 x 8 = some l := by
    show (if x < 211 then mjRv Zc.2.2.1 Zc.2.2.2 x 8 else W.1 x 8) = _
    rw [if_neg (by omega), h3]
  have e1 : qR (mjVw W Zc) x 16 8 = some l := by
    unfold qR
    rw [if_pos k1, if_pos (show mjFk 16 8 = 2 from rfl), r1]
  have e2 : qI (mjVw W Zc) l 20 2 = some (i3 (T : Nat)) := by
    unfold qI
    rw [if_pos k2, if_neg (by decide), (vw_k h4).2, h6]
  have o1 : mjRo (mjVw W Zc) l 20 = true := by
    unfold mjRo
    rw [k2]; rfl
  refine ⟨?_, by unfold mjRo; rw [k1]; rfl⟩
  unfold g196_teams
  show (mjBp (qR (mjVw W Zc) x 16 8) fun v101 => if mjRo (mjVw W Zc) v101 20 = true then mjBp (g249_size v101 (n, mjVw W Zc)) fun v105 => some v105 else none) = _
  rw [e1, mjBp_some, if_pos o1]
  unfold g249_size
  show (mjBp (mjBp (qI (mjVw W Zc) l 20 2) fun v101 => some v101) fun v105 => some v105) = _
  rw [e2, mjBp_some, mjBp_some]
theorem x_pk {k m : Nat} (h : scZ Zc L xs) (hk : k ≤ 100000) (hm : 0 < m ∧ m ≤ 100000) : g185_pick 2000000 (i3 (k : Nat)) (i3 (m : Nat)) (n, mjVw W Zc) = some (i3 (pkN L xs k m : Nat)) := by
  refine q_pick ⟨h.1, ?_, ?_⟩ hk hm
  · show (mjVw W Zc).1 2000001 0 = _
    rw [(vw_k (by omega)).2]; exact h.2.1
  · intro j hj
    show (mjVw W Zc).1 2000000 j = _
    rw [(vw_k (by omega)).2]; exact h.2.2 j hj
/-- what an appeal of the law comes to-/
def stp9 (Y : mjZt) (r : Int32) (b U : Nat) (S0 : mjS) (U2 : Nat) : Prop := ∃ (S2 : mjS) (N2 : Nat) (E2 : Nat → Nat → Int), cI9 Y b S2 N2 U2 E2 ∧ hS9 U2 S2 E2 S0 ∧ ((r = -1 ∧ U2 = U) ∨ ∃ z : Int, 0 ≤ z ∧ z ≤ 9999 ∧ r = i3 z ∧ U2 = U + 1)
theorem stp_no (hi : cI9 Zc b S N U E) (hh : hS9 U S E S0) : stp9 Zc (-1) b U S0 U := ⟨S, N, E, hi, hh, Or.inl ⟨rfl, rfl⟩⟩
theorem stp_yes {z : Int} (hU : U < 10) (hh : hS9 U S E S0) (h : oneC Zc Y b S U E) (hz : 0 ≤ z ∧ z ≤ 9999) : stp9 Y (i3 z) b U S0 (U + 1) := by
  obtain ⟨S2, N2, e, h1, h2, h3, h4⟩ := h
  have lu : lgU U = U + 1 := by unfold lgU; split <;> omega
  rw [lu] at h1
  exact ⟨S2, N2, _, h1, hS_push h2 h3 hh, Or.inr ⟨z, hz.1, hz.2, rfl, rfl⟩⟩
theorem lw_j (hW : mjWok W) (R : Nat → Nat → Nat → Nat → Int32 → Int32 → mjQ → Option (Int32 × mjQ)) {r : Int32} {U2 i : Nat} {x0 x1 x3 : Nat} (hU : U ≤ 10) (h : stp9 Y r b U S0 U2) : g256_law_j241 sg R x0 x1 0 x3 (i3 (U : Nat)) (i3 (i : Nat)) r (n, mjVw W Y) = R x0 x1 0 x3 (i3 (U2 : Nat)) (i3 ((i + 1 : Nat) : Int)) (n, mjVw W Y) := by
  obtain ⟨S2, N2, E2, h1, h2, h3⟩ := h
  have h1' := cI_hid h1
  have ab : qClp (fun Zc => f154_about 11 Zc) (n, mjVw W Y) = some (i3 (U2 : Nat)) := clp_vw hW (by
    show f154_about 11 (hid9 Y) = _
    rw [x_ab11, h1'.2.2.2.2.2.2.2.2.2.2.1])
  unfold g256_law_j241 g256_law_j253
  rcases h3 with ⟨e1, e2⟩ | ⟨z, z1, z2, e1, e2⟩
  · rw [e1, if_neg (by decide), if_pos rfl, if_pos ro_0, ab, mjBp_some, e2, show i3 (U : Nat) + 0 = i3 (U : Nat) from by rw [show (0 : Int32) = i3 0 from rfl, i3_add, Int.add_zero], if_pos (eq_self _), i3_s]
  · rw [e1, if_pos (by rw [show (0 : Int32) = i3 0 from rfl, c_ge (by omega)]; exact z1), if_pos rfl, if_pos ro_0, ab, mjBp_some, e2, i3_s, if_pos (eq_self _), i3_s]
theorem lw_loop (hW : mjWok W) (hT : 1 ≤ T ∧ T ≤ 3) : ∀ f i M (Zc : mjZt) (U N : Nat) (S : mjS) (E : Nat → Nat → Int), i + f = 6 → f < M → U ≤ i → cI9 Zc b S N U E → hS9 U S E S0 → scZ Zc L xs → tmI W Zc x T → ∃ (Y : mjZt) (U2 N2 : Nat) (S2 : mjS) (E2 : Nat → Nat → Int), fr9 Zc Y ∧ U2 ≤ 6 ∧ cI9 Y b S2 N2 U2 E2 ∧ hS9 U2 S2 E2 S0 ∧ g256_law_h69 sg M 2000000 x 0 v (i3 (U : Nat)) (i3 (i : Nat)) (n, mjVw W Zc) = g256_law_h281 sg mjF 0 v (i3 (U2 : Nat) - 1) (n, mjVw W Y) := by
  intro f
  induction f with
  | zero =>
    intro i M Zc U N S E he hM hU hi hh hs ht
    obtain ⟨M, rfl⟩ : ∃ N0, M = N0 + 1 := ⟨M - 1, by omega⟩
    refine ⟨Zc, U, N, S, E, fr9_rf, by omega, hi, hh, ?_⟩
    rw [g256_law_h69, if_pos (by rw [show (6 : Int32) = i3 6 from rfl, c_ge (by omega)]; omega)]
  | succ f ih =>
    intro i M Zc U N S E he hM hU hi hh hs ht
    obtain ⟨M, rfl⟩ : ∃ N0, M = N0 + 1 := ⟨M - 1, by omega⟩
    have hi' := cI_hid hi
    have rn : qClp (fun Zc => f700_runs (600 + (10 * i3 (i : Nat))) Zc) (n, mjVw W Zc) = some 1 := clp_vw hW (by
      show f700_runs (600 + (10 * i3 (i : Nat))) (hid9 Zc) = _
      have e : (600 : Int32) + (10 * i3 (i : Nat)) = i3 ((600 + 10 * i : Nat) : Int) := by
        rw [show (10 : Int32) = i3 10 from rfl, i3_mul, show (600 : Int32) = i3 600 from rfl, i3_add]; rfl
      rw [e]
      exact runs_ok hi'.1 hi'.2.1 hi'.2.2.1 hi'.2.2.2.2.2.1 (scZ_9 hs fr_hid) (by omega))
    obtain ⟨Z2, N2, j1, j2, j3⟩ := judged_ok hi' (by omega)
    have jd : qCl (fun Zc => f701_judged Zc) (n, mjVw W Zc) = some (1, (n, mjVw W Z2)) := cl_vw hW j3
    have f2 : fr9 Zc Z2 := fr9_tr fr_hid j1
    have hs2 := scZ_9 hs f2
    have ht2 := tmI_9 ht f2
    have hj2 := cI_hid j2
    have hb2 := b_b hi.2.1
    have pk : ∀ (c m : Nat), c ≤ 1000 → 0 < m ∧ m ≤ 1000 → g185_pick 2000000 (i3 (c : Nat) + i3 (i : Nat)) (i3 (m : Nat)) (n, mjVw W Z2) = some (i3 (pkN L xs (c + i) m : Nat)) := fun c m hc hm => by
      rw [i3_add]
      exact x_pk (k := c + i) hs2 (by omega) (by omega)
    have fin : ∀ (Y : mjZt) (r : Int32) (U2 : Nat), fr9 (hid9 Z2) Y → stp9 Y r b U S0 U2 → ∃ (Y2 : mjZt) (U3 N3 : Nat) (S3 : mjS) (E3 : Nat → Nat → Int), fr9 Zc Y2 ∧ U3 ≤ 6 ∧ cI9 Y2 b S3 N3 U3 E3 ∧ hS9 U3 S3 E3 S0 ∧ g256_law_j241 sg (g256_law_h69 sg M) 2000000 x 0 v (i3 (U : Nat)) (i3 (i : Nat)) r (n, mjVw W Y) = g256_law_h281 sg mjF 0 v (i3 (U3 : Nat) - 1) (n, mjVw W Y2) := fun Y r U2 fY hst => by
      obtain ⟨S2, N3, E2, h1, h2, h3⟩ := hst
      have fZ : fr9 Zc Y := fr9_tr f2 (fr9_tr fr_hid fY)
      obtain ⟨Y2, U3, N4, S3, E3, g1, g2, g3, g4, g5⟩ := ih (i + 1) M Y U2 N3 S2 E2 (by omega) (by omega) (by omega) h1 h2 (scZ_9 hs fZ) (tmI_9 ht fZ)
      refine ⟨Y2, U3, N4, S3, E3, fr9_tr fZ g1, g2, g3, g4, ?_⟩
      rw [lw_j hW _ (by omega) ⟨S2, N3, E2, h1, h2, h3⟩]
      exact g5
    have p3 := pkN_lt (L := L) (xs := xs) (k := 660 + i) (n := 3) (by omega)
    have q0 : g185_pick 2000000 (660 + i3 (i : Nat)) 3 (n, mjVw W Z2) = some (i3 (pkN L xs (660 + i) 3 : Nat)) := pk 660 3 (by omega) (by omega)
    rw [g256_law_h69, if_neg (by rw [show (6 : Int32) = i3 6 from rfl, c_ge (by omega)]; omega), if_pos rfl, if_pos rfl, rn, mjBp_some, if_neg (by decide), jd, mjBq_some, if_pos (by decide), q0, mjBp_some]
    generalize pkN L xs (660 + i) 3 = p at p3
    rcases (by omega : p = 0 ∨ p = 1 ∨ p = 2) with rfl | rfl | rfl
    · have pa := pkN_lt (L := L) (xs := xs) (k := 670 + i) (n := 4) (by omega)
      have q1 : g185_pick 2000000 (670 + i3 (i : Nat)) 4 (n, mjVw W Z2) = some (i3 (pkN L xs (670 + i) 4 : Nat)) := pk 670 4 (by omega) (by omega)
      rw [if_pos (by decide), q1, mjBp_some, if_pos ro_0]
      generalize pkN L xs (670 + i) 4 = a at pa
      by_cases ha : a < sA S
      · obtain ⟨Y, w1, w2, w3, w4, w5⟩ := y_waive hj2 ha
        have fl := fl_01 hi.2.2.2.2.2.1 ha
        have cc : qCl (fun Zc => f191_waive (i3 (a : Nat)) Zc) (n, mjVw W Z2) = some (i3 (1 - S 3 (72 + 3 * a + 2)), (n, mjVw W Y)) := cl_vw hW w1
        rw [cc, mjBq_some]
        exact fin Y _ (U + 1) (fr9_Y hb2 w5) (stp_yes (by omega) hh ⟨_, _, _, w2, w3, w4, w5⟩ (by omega))
      · have cc : qCl (fun Zc => f191_waive (i3 (a : Nat)) Zc) (n, mjVw W Z2) = some (i3 (-1), (n, mjVw W (hid9 Z2))) := cl_vw hW (y_waive0 hj2 (by omega) (by omega))
        rw [cc, mjBq_some]
        exact fin (hid9 Z2) _ U fr9_rf (stp_no hj2 hh)
    · have pa := pkN_lt (L := L) (xs := xs) (k := 670 + i) (n := 4) (by omega)
      have pb := pkN_lt (L := L) (xs := xs) (k := 680 + i) (n := 2) (by omega)
      have pc := pkN_lt (L := L) (xs := xs) (k := 690 + i) (n := 90) (by omega)
      have q1 : g185_pick 2000000 (670 + i3 (i : Nat)) 4 (n, mjVw W Z2) = some (i3 (pkN L xs (670 + i) 4 : Nat)) := pk 670 4 (by omega) (by omega)
      have q2 : g185_pick 2000000 (680 + i3 (i : Nat)) 2 (n, mjVw W Z2) = some (i3 (pkN L xs (680 + i) 2 : Nat)) := pk 680 2 (by omega) (by omega)
      have q3 : g185_pick 2000000 (690 + i3 (i : Nat)) 90 (n, mjVw W Z2) = some (i3 (pkN L xs (690 + i) 90 : Nat)) := pk 690 90 (by omega) (by omega)
      rw [if_neg (by decide), if_pos (by decide), q1, mjBp_some, q2, mjBp_some, q3, mjBp_some, if_pos ro_0]
      generalize pkN L xs (670 + i) 4 = a at pa
      generalize pkN L xs (680 + i) 2 = m at pb
      generalize pkN L xs (690 + i) 90 = z at pc
      rcases y_appeal hj2 (a := a) (m := m) (v := ((z : Nat) : Int)) (by omega) pb (by omega) with w | ⟨-, -, y, Y, y1, y2, w1, w2⟩
      · have cc : qCl (fun Zc => f190_appeal (i3 (a : Nat)) (i3 (m : Nat)) (i3 (z : Nat)) Zc) (n, mjVw W Z2) = some (-1, (n, mjVw W (hid9 Z2))) := cl_vw hW w
        rw [cc, mjBq_some]
        exact fin (hid9 Z2) _ U fr9_rf (stp_no hj2 hh)
      · have cc : qCl (fun Zc => f190_appeal (i3 (a : Nat)) (i3 (m : Nat)) (i3 (z : Nat)) Zc) (n, mjVw W Z2) = some (i3 y, (n, mjVw W Y)) := cl_vw hW w1
        rw [cc, mjBq_some]
        exact fin Y _ (U + 1) (by obtain ⟨_, _, _, _, _, _, w5⟩ := w2; exact fr9_Y hb2 w5) (stp_yes (by omega) hh w2 ⟨y1, y2⟩)
    · obtain ⟨tt, to⟩ := x_teams (n := n) ht2
      have pa := pkN_lt (L := L) (xs := xs) (k := 670 + i) (n := T) (by omega)
      have pc := pkN_lt (L := L) (xs := xs) (k := 690 + i) (n := 200) (by omega)
      have q1 : g185_pick 2000000 (670 + i3 (i : Nat)) (i3 (T : Nat)) (n, mjVw W Z2) = some (i3 (pkN L xs (670 + i) T : Nat)) := pk 670 T (by omega) (by omega)
      have q3 : g185_pick 2000000 (690 + i3 (i : Nat)) 200 (n, mjVw W Z2) = some (i3 (pkN L xs (690 + i) 200 : Nat)) := pk 690 200 (by omega) (by omega)
      rw [if_neg (by decide), if_neg (by decide), if_pos to, tt, mjBp_some, q1, mjBp_some, q3, mjBp_some, if_pos ro_0]
      generalize pkN L xs (670 + i) T = a at pa
      generalize pkN L xs (690 + i) 200 = z at pc
      have e30 : (30 : Int32) + i3 (z : Nat) = i3 (30 + (z : Int)) := by rw [show (30 : Int32) = i3 30 from rfl, i3_add]
      rw [e30]
      rcases y_measure hj2 (t := a) (v := 30 + (z : Int)) (by omega) (by omega) with w | ⟨y, Y, y1, y2, w1, w2⟩
      · have cc : qCl (fun Zc => f192_measure (i3 (a : Nat)) 1 (i3 (30 + (z : Int))) 0 Zc) (n, mjVw W Z2) = some (-1, (n, mjVw W (hid9 Z2))) := cl_vw hW w
        rw [cc, mjBq_some]
        exact fin (hid9 Z2) _ U fr9_rf (stp_no hj2 hh)
      · have cc : qCl (fun Zc => f192_measure (i3 (a : Nat)) 1 (i3 (30 + (z : Int))) 0 Zc) (n, mjVw W Z2) = some (i3 y, (n, mjVw W Y)) := cl_vw hW w1
        rw [cc, mjBq_some]
        exact fin Y _ (U + 1) (by obtain ⟨_, _, _, _, _, _, w5⟩ := w2; exact fr9_Y hb2 w5) (stp_yes (by omega) hh w2 ⟨y1, y2⟩)
end LO9
